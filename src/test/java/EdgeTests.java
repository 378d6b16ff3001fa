import java.io.IOException;
import java.nio.file.Files;
import java.nio.file.Path;
import java.util.ArrayList;
import java.util.Arrays;
import java.util.List;

/**
 * Runs every test of an edge, and looks whether the sentences that they are named by stand in the
 * document and leave none of it without a test. With "list" it also prints all names.
 */
public final class EdgeTests {
    private static final Path DOCUMENT = Path.of("../shared/DOC.md");
    private static final int PROMISES = 31;
    /** What the document says of no call. */
    private static final String[] NOT_OF_A_CALL = {"All numbers are whole."};

    private static int wrong = 0;

    private static void fail(String what) {
        wrong++;
        System.out.println(what);
    }

    private static List<Edges.Name> runAll() {
        List<Edges> groups = List.of(new TapeEdges(), new BookEdges(), new PackEdges(), new LeastEdges(),
                new GreedyEdges(), new WrittenEdges(), new FaultEdges(), new TrainEdges(), new SendEdges(),
                new ArriveEdges(), new LookEdges(), new RefusedEdges(), new FarEdges());
        List<Edges.Name> names = new ArrayList<>();
        for (Edges group : groups) {
            group.run();
            wrong += group.wrong();
            names.addAll(group.names());
        }
        return names;
    }

    /** The text behind a heading, up to the next one, with single spaces. */
    private static String section(String document, String heading) {
        int from = document.indexOf(heading);
        if (from < 0) return "";
        int start = document.indexOf('\n', from);
        int end = document.indexOf("\n## ", start);
        String text = document.substring(start, end < 0 ? document.length() : end);
        return text.replaceAll("```(text|java)?", " ").replaceAll("`[^`\n]*`:", " ").replaceAll("\\s+", " ");
    }

    /** Marks every place at which a sentence stands; false if there is none. */
    private static boolean mark(String text, String sentence, boolean[] marked) {
        boolean found = false;
        for (int at = text.indexOf(sentence); at >= 0; at = text.indexOf(sentence, at + 1)) {
            Arrays.fill(marked, at, at + sentence.length(), true);
            found = true;
        }
        return found;
    }

    private static void unmarked(String where, String text, boolean[] marked) {
        StringBuilder left = new StringBuilder();
        for (int i = 0; i < text.length(); i++) left.append(marked[i] ? '\n' : text.charAt(i));
        for (String rest : left.toString().split("\n+")) {
            if (rest.matches(".*[A-Za-z0-9].*")) fail(where + " says, and no test is named so: " + rest.strip());
        }
    }

    private static String terms(String document) {
        String text = section(document, "## Terms");
        int calls = text.indexOf("Ahead of the calls");
        return (calls < 0 ? text : text.substring(0, calls)).replaceAll("={8} [1-5]?", " ").replaceAll("\\s+", " ");
    }

    private static void compareWithDocument(List<Edges.Name> names) throws IOException {
        String document = Files.readString(DOCUMENT);
        String terms = terms(document);
        boolean[] marked = new boolean[terms.length()];
        for (String sentence : NOT_OF_A_CALL) mark(terms, sentence, marked);
        for (int promise = 1; promise <= PROMISES; promise++) {
            String text = section(document, "## Promise " + promise + ":");
            boolean[] markedHere = new boolean[text.length()];
            for (Edges.Name name : names) {
                if (name.promise() != promise) continue;
                boolean here = mark(text, name.sentence(), markedHere);
                boolean there = mark(terms, name.sentence(), marked);
                if (!here && !there) fail("the document does not say so: " + name.told());
            }
            unmarked("promise " + promise, text, markedHere);
        }
        unmarked("Terms", terms, marked);
    }

    public static void main(String[] args) throws IOException {
        List<Edges.Name> names = runAll();
        if (args.length > 0 && args[0].equals("list")) {
            for (Edges.Name name : names) System.out.println(name.told());
        }
        if (Files.exists(DOCUMENT)) compareWithDocument(names);
        System.out.println(wrong == 0 ? names.size() + " edges are as due" : wrong + " faults at edges");
        if (wrong != 0) System.exit(1);
    }
}
