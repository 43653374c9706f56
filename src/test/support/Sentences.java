import java.io.IOException;
import java.nio.file.Files;
import java.nio.file.Path;

/** What the edge tests share: each answer is looked at under the sentence of the document that asks for it. */
abstract class Sentences {
    static final int NONE = FireLines.NONE;
    static final int LEAST = Integer.MIN_VALUE;
    static final int MOST = Integer.MAX_VALUE;
    private static int wrong = 0;
    private static int looks = 0;
    private static String sentence = "";
    private static String document = "";

    /** Begins the test of a sentence, which must stand in the document as it is told here. */
    static void sentence(String words) {
        noteEmptyTest();
        sentence = words;
        looks = 0;
        if (document.isEmpty()) {
            document = readDocument();
        }
        if (!document.contains(words)) {
            fail("no such words in the document");
        }
    }

    private static void noteEmptyTest() {
        if (!sentence.isEmpty() && looks == 0) {
            fail("nothing was looked at");
        }
    }

    private static String readDocument() {
        try {
            return Files.readString(Path.of("../shared/DOC.md")).replaceAll("\\s+", " ");
        } catch (IOException e) {
            return "there is no document";
        }
    }

    private static void fail(String what) {
        wrong++;
        System.out.println("\"" + sentence + "\": " + what);
    }

    static void due(String what, long got, long want) {
        looks++;
        if (got != want) {
            fail(what + " answered " + got + ", due is " + want);
        }
    }

    static void due(String what, boolean got, boolean want) {
        looks++;
        if (got != want) {
            fail(what + " answered " + got + ", due is " + want);
        }
    }

    static void due(String what, String got, String want) {
        looks++;
        if (!got.equals(want)) {
            fail(what + ": " + firstDifference(got, want));
        }
    }

    private static String firstDifference(String got, String want) {
        String[] gotLines = got.split("\n");
        String[] wantLines = want.split("\n");
        for (int i = 0; i < Math.min(gotLines.length, wantLines.length); i++) {
            if (!gotLines[i].equals(wantLines[i])) {
                return gotLines[i] + ", due is " + wantLines[i];
            }
        }
        return gotLines.length + " answers, due are " + wantLines.length;
    }

    static void end(String name) {
        noteEmptyTest();
        System.out.println(wrong == 0 ? name + ": all as due" : name + ": " + wrong + " wrong");
        if (wrong != 0) {
            System.exit(1);
        }
    }

    static FireLines hills(int w, int h) {
        FireLines x = new FireLines();
        if (!x.hills(w, h)) {
            fail("hills(" + w + ", " + h + ") were refused");
        }
        return x;
    }

    /** Hills on which the fire can go into these cells alone: all others have fuel 0. */
    static FireLines lane(int w, int h, int... cells) {
        FireLines x = hills(w, h);
        for (int c = 0; c < w * h; c++) {
            boolean inLane = false;
            for (int each : cells) {
                inLane |= each == c;
            }
            if (!inLane) {
                x.cell(c, 0, 0, 0);
            }
        }
        return x;
    }
}
