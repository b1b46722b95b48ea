import java.util.ArrayList;
import java.util.List;

/** Finds the fault of a text by a list of all its tokens; 0 if there is none. */
final class FaultJudge {
    private static final List<String> RESERVED = List.of("hut", "loads", "path", "takes", "bars", "carry", "lay", "eat",
        "plain", "inn", "steep", "small", "not", "and", "or");
    private static final List<String> FACTS = List.of("here", "there", "price", "all");

    private static final class Fault extends RuntimeException {
        private static final long serialVersionUID = 1L;
        final int number;

        Fault(int number) {
            super("fault", null, false, false);
            this.number = number;
        }
    }

    record Token(String text, int place) {
        boolean isNumber() {
            return text.matches("[0-9]{1,4}");
        }

        boolean isName() {
            return text.matches("[a-z]{1,8}") && !RESERVED.contains(text);
        }
    }

    private final List<Token> tokens = new ArrayList<>();
    private int at;
    private final List<String> huts = new ArrayList<>();
    private final List<String> paths = new ArrayList<>();

    private FaultJudge(String text) {
        int i = 0;
        while (i < text.length()) {
            int j = i + 1;
            String kind = Character.isLowerCase(text.charAt(i)) ? "[a-z]+" : "[0-9]+";
            if (text.charAt(i) != ' ' && text.charAt(i) != '\n') {
                while (j < text.length() && text.substring(i, j + 1).matches(kind)) {
                    j++;
                }
                tokens.add(new Token(text.substring(i, j), i));
            }
            i = j;
        }
        tokens.add(new Token("", text.length()));
    }

    static int ofHills(String text) {
        FaultJudge judge = new FaultJudge(text);
        try {
            judge.hills();
        } catch (Fault fault) {
            return fault.number;
        }
        return 0;
    }

    static int ofTrip(String text, List<String> huts) {
        FaultJudge judge = new FaultJudge(text);
        judge.huts.addAll(huts);
        try {
            judge.trip();
        } catch (Fault fault) {
            return fault.number;
        }
        return 0;
    }

    private Token now() {
        return tokens.get(at);
    }

    private boolean is(String text) {
        return now().text.equals(text);
    }

    private void refuse(boolean refused, int kind) {
        if (refused) {
            throw new Fault(kind + 16 * now().place);
        }
    }

    private void word(String text) {
        refuse(!is(text), 1);
        at++;
    }

    private int number(int least, int most) {
        refuse(!now().isNumber(), 1);
        int number = Integer.parseInt(now().text);
        refuse(number < least || number > most, 4);
        at++;
        return number;
    }

    private void hills() {
        int loads = 0;
        boolean bars = false;
        while (!is("")) {
            refuse(!is("hut") && !is("path") && !is("bars"), 1);
            if (is("hut")) {
                refuse(huts.size() == 5, 5);
                at++;
                refuse(!now().isName(), 1);
                refuse(huts.contains(now().text), 3);
                String name = now().text;
                at++;
                refuse(!List.of("plain", "inn", "steep", "small").contains(now().text), 1);
                boolean small = is("small");
                at++;
                word("loads");
                loads += number(0, small ? Math.min(3, 12 - loads) : 12 - loads);
                huts.add(name);
            } else if (is("path")) {
                at++;
                String first = told();
                refuse(!now().isName(), 1);
                refuse(!huts.contains(now().text), 2);
                String second = now().text;
                refuse(first.equals(second) || paths.contains(first + " " + second), 3);
                at++;
                word("takes");
                number(2, 4);
                paths.add(first + " " + second);
                paths.add(second + " " + first);
            } else {
                refuse(bars, 3);
                bars = true;
                at++;
                tests(0);
            }
            word(";");
        }
    }

    private String told() {
        refuse(!now().isName(), 1);
        refuse(!huts.contains(now().text), 2);
        at++;
        return tokens.get(at - 1).text;
    }

    private void trip() {
        int lines = 0;
        while (!is("")) {
            refuse(!is("carry") && !is("lay") && !is("eat"), 1);
            refuse(lines == 40, 5);
            boolean carry = is("carry");
            at++;
            String first = told();
            if (carry) {
                refuse(now().isName() && huts.contains(now().text) && now().text.equals(first), 3);
                told();
            }
            word(";");
            lines++;
        }
    }

    private void tests(int within) {
        boolean more = true;
        while (more) {
            sum(within);
            if (is("<") || is("=")) {
                at++;
                sum(within);
            }
            more = is("and") || is("or");
            at += more ? 1 : 0;
        }
    }

    private void sum(int within) {
        part(within);
        while (is("+") || is("-") || is("*")) {
            at++;
            part(within);
        }
    }

    private void part(int within) {
        boolean known = is("not") || is("(") || now().isNumber() || FACTS.contains(now().text);
        refuse(!known, 1);
        refuse(within == 5, 5);
        at++;
        if (tokens.get(at - 1).text.equals("not")) {
            part(within + 1);
        } else if (tokens.get(at - 1).text.equals("(")) {
            tests(within + 1);
            word(")");
        }
    }
}
