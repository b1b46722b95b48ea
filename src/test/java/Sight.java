/** What can be seen of an object by some thirty calls that change nothing. */
final class Sight {
    private Sight() { }

    static String of(PassHuts x) {
        StringBuilder seen = new StringBuilder();
        for (int what = 0; what <= 9; what++) {
            seen.append(" c").append(x.count(what));
        }
        for (int what = 0; what <= 2; what++) {
            seen.append(" j").append(x.judged(what));
        }
        seen.append(" f").append(x.fit()).append(" k").append(x.look());
        seen.append(" l").append(x.longest()).append(" s").append(x.seasons(5, 40, 1));
        for (int hut = 0; hut < 5; hut++) {
            seen.append(" h").append(x.hut(hut, 0)).append(',').append(x.hut(hut, 1)).append(',').append(x.hut(hut, 2));
        }
        return seen.toString();
    }

    /** What can be seen of HILLS by some ninety calls. */
    static String ofHills(PassHuts x) {
        StringBuilder seen = new StringBuilder(of(x));
        for (int hut = 0; hut < 5; hut++) {
            seen.append("\n  m").append(x.most(hut)).append(" L").append(x.least(hut)).append(" S").append(x.sure(hut));
            seen.append(" C").append(x.comes(hut, 12)).append(',').append(x.comes(hut, 5));
            for (int other = hut + 1; other < 5; other++) {
                seen.append(' ').append(x.price(hut, other)).append(x.price(other, hut));
            }
        }
        seen.append(" a").append(x.always()).append(" B").append(x.best(-1)).append(" w").append(x.wins(1));
        seen.append(" n").append(x.layings(12)).append(',').append(x.layings(4)).append(" s").append(x.stuck());
        return seen.toString();
    }
}
