/** Counts the answers that are not as due; every test of the project tells its end by finish(). */
final class Check {
    private int wrong = 0;
    private int asked = 0;

    void due(String call, long got, long want) {
        asked++;
        if (got != want) {
            wrong++;
            System.out.println(call + " answered " + got + ", due is " + want);
        }
    }

    void isTrue(String what, boolean holds) {
        due(what, holds ? 1 : 0, 1);
    }

    int wrong() {
        return wrong;
    }

    void finish() {
        System.out.println(asked + " answers asked, " + wrong + " not as due");
        if (wrong != 0) {
            System.exit(1);
        }
    }

    static void feed(MownMaze x, String text) {
        for (int i = 0; i < text.length(); i++) {
            x.feed(text.charAt(i));
        }
    }

    static int tell(MownMaze x, String text) {
        feed(x, text);
        return x.text();
    }

    static MownMaze told(String text) {
        MownMaze x = new MownMaze();
        if (tell(x, text) < 0) {
            System.out.println("the test's own text is refused: " + text);
            System.exit(1);
        }
        return x;
    }
}
