import java.util.Map;
import java.util.TreeMap;

/** Counts the answers that are not as due, and by which sentence of the document they are due. */
final class Check {
    private final Map<String, Integer> looks = new TreeMap<>();
    private String sentence = "";
    private int wrong;

    /** From now on all looks are looks at this sentence. */
    void sentence(String text) {
        sentence = text;
        looks.putIfAbsent(text, 0);
    }

    /** How many looks each sentence had. */
    Map<String, Integer> looks() {
        return looks;
    }

    void same(String call, long got, long due) {
        if (isWrong(got == due)) {
            tell(call + " answered " + got + ", due is " + due);
        }
    }

    void same(String call, double got, double due) {
        if (isWrong(Double.compare(got, due) == 0)) {
            tell(call + " answered " + got + ", due is " + due);
        }
    }

    void same(String call, Object got, Object due) {
        if (isWrong(got.equals(due))) {
            tell(call + " answered " + got + ", due is " + due);
        }
    }

    void yes(String what, boolean holds) {
        if (isWrong(holds)) {
            tell(what + " does not hold");
        }
    }

    private boolean isWrong(boolean holds) {
        looks.computeIfPresent(sentence, (text, many) -> many + 1);
        return !holds;
    }

    void end() {
        System.out.println(wrong == 0 ? "all answers are as due" : wrong + " answers are not as due");
        if (wrong != 0) {
            System.exit(1);
        }
    }

    private void tell(String text) {
        wrong++;
        if (wrong <= 40) {
            System.out.println(sentence.isEmpty() ? text : "[" + sentence + "] " + text);
        }
    }
}
