import java.util.function.IntSupplier;

/** Counts the answers that are not as due; each test ends by exit code 1 if there was one. */
final class Due {
    private int asked = 0;
    private int wrong = 0;

    void is(String what, long got, long want) {
        asked++;
        if (got != want) {
            wrong++;
            System.out.println(what + " answered " + got + ", due is " + want);
        }
    }

    void holds(String what, boolean got) {
        is(what, got ? 1 : 0, 1);
    }

    /** The call answers this, and nothing that can be asked changes by it. */
    void refuses(String what, SevenForms x, IntSupplier call, int want) {
        String before = State.of(x);
        is(what, call.getAsInt(), want);
        holds(what + ": nothing changes", before.equals(State.of(x)));
    }

    /** 0: peek answers; 1: it throws ArrayIndexOutOfBoundsException. */
    static int peekThrows(SevenForms x, long i) {
        try {
            x.peek(i);
            return 0;
        } catch (ArrayIndexOutOfBoundsException e) {
            return 1;
        }
    }

    /** 0: poke answers; 1: it throws ArrayIndexOutOfBoundsException; 2: IllegalArgumentException. */
    static int pokeThrows(SevenForms x, long i, int v) {
        try {
            x.poke(i, v);
            return 0;
        } catch (ArrayIndexOutOfBoundsException e) {
            return 1;
        } catch (IllegalArgumentException e) {
            return 2;
        }
    }

    void end() {
        System.out.println(wrong == 0 ? asked + " answers are as due" : wrong + " of " + asked + " answers are not as due");
        if (wrong != 0) {
            System.exit(1);
        }
    }
}
