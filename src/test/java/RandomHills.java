import java.util.ArrayList;
import java.util.List;
import java.util.Random;

/** Hills drawn from a seed: the tokens of their text, and what the oracle is told of them. */
final class RandomHills {
    static final String[] KINDS = {"plain", "inn", "steep", "small"};
    static final String[] NAMES = {"here", "b", "camp", "takesx", "zzzzzzzz"};

    final List<String> tokens = new ArrayList<>();
    final List<Integer> kinds = new ArrayList<>();
    final List<Integer> told = new ArrayList<>();
    final List<Oracle.Path> paths = new ArrayList<>();
    Oracle.Expr law = (here, there, price, all) -> 0;
    private final Random random;

    RandomHills(Random random, int huts) {
        this.random = random;
        int rest = random.nextInt(13);
        for (int i = 0; i < huts; i++) {
            int kind = random.nextInt(3) == 0 ? 3 : random.nextInt(3);
            int most = Math.min(kind == 3 ? 3 : 12, rest);
            int loads = i == huts - 1 && kind != 3 ? rest : random.nextInt(most + 1);
            rest -= loads;
            kinds.add(kind);
            told.add(loads);
            add("hut", NAMES[i], KINDS[kind], "loads", "" + loads, ";");
        }
        addPaths(huts);
        if (random.nextInt(2) == 0) {
            add("bars");
            law = tests(0);
            add(";");
        }
    }

    private void add(String... some) {
        tokens.addAll(List.of(some));
    }

    private void addPaths(int huts) {
        int dense = random.nextInt(4);
        for (int i = 0; i < huts; i++) {
            for (int j = i + 1; j < huts; j++) {
                if (random.nextInt(4) <= dense) {
                    int takes = random.nextInt(3) == 0 ? 2 + random.nextInt(3) : 2;
                    boolean turned = random.nextBoolean();
                    paths.add(turned ? new Oracle.Path(j, i, takes) : new Oracle.Path(i, j, takes));
                    add("path", NAMES[turned ? j : i], NAMES[turned ? i : j], "takes", "" + takes, ";");
                }
            }
        }
    }

    private Oracle.Expr tests(int within) {
        Oracle.Expr all = test(within);
        while (random.nextInt(3) == 0 && tokens.size() < 150) {
            boolean and = random.nextBoolean();
            add(and ? "and" : "or");
            Oracle.Expr left = all;
            Oracle.Expr right = test(within);
            all = (h, t, p, a) -> {
                boolean l = left.value(h, t, p, a) != 0;
                boolean r = right.value(h, t, p, a) != 0;
                return (and ? l && r : l || r) ? 1 : 0;
            };
        }
        return all;
    }

    private Oracle.Expr test(int within) {
        Oracle.Expr left = sum(within);
        int kind = random.nextInt(4);
        if (kind == 3) {
            return left;
        }
        add(kind == 0 ? "=" : "<");
        Oracle.Expr right = sum(within);
        return (h, t, p, a) -> {
            int l = left.value(h, t, p, a);
            int r = right.value(h, t, p, a);
            return (kind == 0 ? l == r : l < r) ? 1 : 0;
        };
    }

    private Oracle.Expr sum(int within) {
        Oracle.Expr all = product(within);
        while (random.nextInt(4) == 0 && tokens.size() < 150) {
            boolean plus = random.nextBoolean();
            add(plus ? "+" : "-");
            Oracle.Expr left = all;
            Oracle.Expr right = product(within);
            all = (h, t, p, a) -> left.value(h, t, p, a) + (plus ? 1 : -1) * right.value(h, t, p, a);
        }
        return all;
    }

    private Oracle.Expr product(int within) {
        Oracle.Expr all = part(within);
        while (random.nextInt(4) == 0 && tokens.size() < 150) {
            add("*");
            Oracle.Expr left = all;
            Oracle.Expr right = part(within);
            all = (h, t, p, a) -> left.value(h, t, p, a) * right.value(h, t, p, a);
        }
        return all;
    }

    private Oracle.Expr part(int within) {
        int kind = random.nextInt(within < 4 && tokens.size() < 150 ? 10 : 7);
        switch (kind) {
            case 0:
                add("here");
                return (h, t, p, a) -> h;
            case 1:
                add("there");
                return (h, t, p, a) -> t;
            case 2:
                add("price");
                return (h, t, p, a) -> p;
            case 3:
                add("all");
                return (h, t, p, a) -> a;
            case 4, 5, 6:
                int number = kind == 4 ? random.nextInt(10000) : random.nextInt(8);
                add("" + number);
                return (h, t, p, a) -> number;
            case 7:
                add("not");
                Oracle.Expr inner = part(within + 1);
                return (h, t, p, a) -> inner.value(h, t, p, a) == 0 ? 1 : 0;
            default:
                add("(");
                Oracle.Expr nested = tests(within + 1);
                add(")");
                return nested;
        }
    }

    /** The tokens as a text, with blanks where they must be and where it likes. */
    static String text(List<String> tokens, Random random) {
        StringBuilder text = new StringBuilder();
        for (String token : tokens) {
            boolean joins = text.length() > 0 && !token.isEmpty()
                && (isLetter(text.charAt(text.length() - 1)) && isLetter(token.charAt(0))
                || isDigit(text.charAt(text.length() - 1)) && isDigit(token.charAt(0)));
            if (joins || random.nextInt(3) == 0) {
                text.append(random.nextInt(4) == 0 ? '\n' : ' ');
            }
            text.append(token);
        }
        return text.toString();
    }

    private static boolean isLetter(char c) {
        return c >= 'a' && c <= 'z';
    }

    private static boolean isDigit(char c) {
        return c >= '0' && c <= '9';
    }
}
