import java.math.BigInteger;
import java.util.ArrayList;
import java.util.List;
import java.util.function.IntBinaryOperator;

/** Edges of the limit and of draws: section 2 of the terms, promises 19 to 28. */
final class LimitEdges extends Edges {
    LimitEdges(Check check) {
        super(check);
    }

    void run() {
        terms();
        nearTerms();
        drawTerms();
        partCalls();
        atCalls();
        netCalls();
        drawCalls();
    }

    private void parts(int... weights) {
        x.bare();
        for (int weight : weights) {
            x.part(weight);
        }
    }

    /** All chances, each part's with itself too, become v. */
    private void allChances(int v) {
        for (int b = 0; b < x.many(0); b++) {
            for (int a = 0; a <= b; a++) {
                x.chance(a, b, v);
            }
        }
    }

    private void at(long above, long below, int m, int form) {
        due(above, x.at(m, form, 0), below, x.at(m, form, 1));
    }

    /** A form there must be: all chances together are 1. */
    private void allAtsAre1(int m) {
        BigInteger above = BigInteger.ZERO;
        BigInteger below = BigInteger.ONE;
        for (int form : FORMS[m]) {
            BigInteger moreBelow = BigInteger.valueOf(x.at(m, form, 1));
            above = above.multiply(moreBelow).add(BigInteger.valueOf(x.at(m, form, 0)).multiply(below));
            below = below.multiply(moreBelow);
        }
        due(1, above.equals(below) ? 1 : 0);
    }

    private void terms() {
        edge("THE LIMIT has PARTS, 5 at most, numbered as they come, each with a WEIGHT (1 to 9);", () -> {
            due(BAD, x.part(0), BAD, x.part(10), 0, x.part(1), 1, x.part(9), 2, x.part(1), 3, x.part(9), 4, x.part(5), FULL, x.part(1),
                5, x.many(0));
            due(0, x.chance(4, 4, 4), 1, x.at(2, 1, 0), 25, x.at(2, 1, 1), 4, x.chance(4, 4, 0), 0, x.chance(1, 1, 4), 81, x.at(2, 1, 0),
                625, x.at(2, 1, 1));
            due(5, x.bare(), 0, x.part(9), 1, x.many(0));
        });
        edge("CHANCES (0 to 4; 0 at first) of each two PARTS, and of each one with itself.", () -> {
            parts(1, 1, 1, 1, 1);
            for (int b = 0; b < 5; b++) {
                for (int a = 0; a <= b; a++) {
                    due(0, x.chance(a, b, 4), 4, x.chance(b, a, 3), BAD, x.chance(a, b, 5), BAD, x.chance(b, a, -1), 3, x.chance(a, b, 3));
                }
            }
            each(BAD, x.chance(5, 0, 0), x.chance(0, 5, 0), x.chance(-1, 0, 0), x.chance(5, 5, 0));
            x.bare();
            parts(1, 1, 1, 1, 1);
            for (int b = 0; b < 5; b++) {
                for (int a = 0; a <= b; a++) {
                    due(0, x.chance(a, b, 0));
                }
            }
        });
        edge("AT of a FORM of m: m POSTS are drawn, each of a PART by WEIGHTS, apart from each other; each two of them have a ROAD"
            + " with the CHANCE of their PARTS by 4, apart from each other: with what chance it is their FORM.", () -> {
            parts(9);
            due(1, x.at(1, 0, 0), 1, x.at(1, 0, 1), 1, x.at(4, 0, 0), 1, x.at(4, 0, 1), 0, x.at(4, 1, 0), 1, x.at(4, 1, 1));
            x.chance(0, 0, 4);
            due(1, x.at(4, 63, 0), 1, x.at(4, 63, 1), 0, x.at(4, 31, 0), 0, x.at(2, 0, 0), 1, x.at(1, 0, 0));
            x.chance(0, 0, 1);
            at(1, 4096, 4, 63);
            at(729, 4096, 4, 0);
            at(9, 64, 3, 3);
            at(3, 4, 2, 0);
            parts(9, 9, 9, 9, 7);
            x.chance(0, 0, 1);
            at(6561, 14003408896L, 4, 63);
            allChances(3);
            at(729, 4096, 4, 63);
            x.chance(4, 4, 2);
            x.chance(0, 3, 1);
            for (int m = 1; m <= 4; m++) {
                allAtsAre1(m);
            }
            parts(1, 1);
            x.chance(0, 1, 4);
            at(3, 8, 4, 30);
            at(1, 2, 4, 11);
            at(1, 8, 4, 0);
        });
        edge("FREE is THE LIMIT, if AT of each FORM that is OUT is 0.", () -> {
            parts(9, 9, 9, 9, 1);
            due(1, x.freeAt(), 1, x.out(4, 63, true), 1, x.freeAt(), 0, x.chance(4, 4, 1), 0, x.freeAt(), 1, x.out(4, 63, false),
                1, x.freeAt());
            due(1, x.out(3, 7, true), 0, x.freeAt(), 1, x.chance(4, 4, 0), 1, x.freeAt(), 0, x.chance(0, 4, 1), 1, x.freeAt(),
                1, x.out(4, 30, true), 0, x.freeAt());
            due(1, x.chance(4, 0, 0), 1, x.freeAt(), 1, x.out(2, 1, true), 1, x.freeAt(), 1, x.out(4, 0, true), 0, x.freeAt(),
                1, x.out(4, 0, false), 1, x.freeAt());
            allChances(4);
            due(1, x.out(2, 1, false), 0, x.freeAt(), 1, x.out(3, 7, false), 1, x.freeAt(), 1, x.out(2, 0, true), 1, x.freeAt());
        });
        edge("BLOWN from a NET (of 5 POSTS at most): its POSTS are PARTS with WEIGHT 1; CHANCE 4 where there is a ROAD, else 0.", () -> {
            parts(9, 9, 9, 9, 9);
            allChances(3);
            due(1, x.blow(0), 1, x.many(0), 0, x.chance(0, 0, 0), 1, x.at(4, 0, 0), 0, x.at(4, 63, 0));
            x.posts(0, 5);
            x.turn(0);
            x.road(0, 1, 3, false);
            due(5, x.blow(0), 5, x.many(0));
            for (int b = 0; b < 5; b++) {
                for (int a = 0; a <= b; a++) {
                    due(a == b || a == 1 && b == 3 ? 0 : 4, x.chance(a, b, a == b || a == 1 && b == 3 ? 0 : 4));
                }
            }
            at(18, 25, 2, 1);
            x.posts(0, 6);
            due(STATE, x.blow(0), 5, x.many(0), 18, x.at(2, 1, 0), 10, x.posts(0, 10), STATE, x.blow(0), 3, x.posts(0, 3), 3, x.blow(0),
                3, x.part(7), 0, x.chance(3, 3, 0));
            due(1, x.posts(0, 1), 1, x.blow(0), 1, x.part(1), 0, x.chance(1, 1, 4));
            at(1, 4, 2, 1);
        });
    }

    private void nearTerms() {
        edge("NEAR it: a NET of n POSTS: of a PART n times WEIGHT by all WEIGHTS, cut; of the POSTS that are left one each for"
            + " the PARTS with the greatest rest (of several the first); numbered by PARTS.", () -> {
            dealt(new int[] {9}, 1, 1);
            dealt(new int[] {1}, 10, 10);
            dealt(new int[] {1, 1, 1, 1, 1}, 1, 1, 0, 0, 0, 0);
            dealt(new int[] {1, 1, 1, 1, 1}, 4, 1, 1, 1, 1, 0);
            dealt(new int[] {1, 1, 1, 1, 1}, 5, 1, 1, 1, 1, 1);
            dealt(new int[] {1, 1, 1, 1, 1}, 6, 2, 1, 1, 1, 1);
            dealt(new int[] {9, 9, 9, 9, 9}, 9, 2, 2, 2, 2, 1);
            dealt(new int[] {9, 9, 9, 9, 9}, 10, 2, 2, 2, 2, 2);
            dealt(new int[] {9, 1}, 1, 1, 0);
            dealt(new int[] {9, 1}, 5, 5, 0);
            dealt(new int[] {1, 9}, 5, 1, 4);
            dealt(new int[] {1, 9}, 1, 0, 1);
            dealt(new int[] {1, 9}, 10, 1, 9);
            dealt(new int[] {1, 9, 1}, 10, 1, 8, 1);
            dealt(new int[] {1, 2, 1}, 2, 1, 1, 0);
            dealt(new int[] {1, 1, 9}, 1, 0, 0, 1);
            dealt(new int[] {2, 3}, 1, 0, 1);
            dealt(new int[] {2, 2, 3}, 2, 1, 0, 1);
            dealt(new int[] {2, 3, 3}, 2, 0, 1, 1);
            dealt(new int[] {3, 2, 2, 9, 1}, 10, 2, 1, 1, 5, 1);
            parts(1, 9);
            due(0, x.near(0, 10), 2, x.bare(), 0, x.part(1), 0, x.chance(0, 0, 4), 45, x.near(0, 10), 1, x.bare(), 0, x.part(9),
                0, x.near(0, 10));
        });
        edge("ROADS of pairs a below b, by b, then by a: CHANCE 4 yes, 0 no; else z (an int; 1 at first) becomes"
            + " z * 1103515245 + 12345: yes, if (z >>> 16) % 4 is less than CHANCE.", () -> {
            due(1, x.seed(1));
            parts(1, 1);
            x.chance(0, 0, 4);
            due(10, x.near(0, 10), 1, x.seed(1));
            for (int v = 1; v <= 3; v++) {
                for (int seed : new int[] {0, 1, -1, LOW, HIGH, 77}) {
                    nearBySeed(seed, v);
                }
            }
            x.seed(HIGH);
            parts(1);
            x.chance(0, 0, 1);
            x.near(0, 2);
            due(HIGH * 1103515245 + 12345, x.seed(5), 0, x.near(0, 1), 5, x.seed(5));
        });
    }

    /** Posts of one part have roads among them, those of two parts have none: so roads tell how many each part has. */
    private void dealt(int[] weights, int n, int... want) {
        x = new ShareNets();
        parts(weights);
        for (int part = 0; part < weights.length; part++) {
            x.chance(part, part, 4);
        }
        int all = 0;
        int from = 0;
        for (int posts : want) {
            all += posts * (posts - 1) / 2;
        }
        due(all, x.near(2, n), n, x.netOf(2, 0));
        for (int posts : want) {
            int set = (1 << posts) - 1 << from;
            for (int post = from; post < from + posts; post++) {
                due(set & ~(1 << post), x.netOf(2, 10 + post));
            }
            from += posts;
        }
        due(1, x.seed(1));
    }

    /** Half of ten posts are of each part. */
    private void nearBySeed(int seed, int v) {
        x = new ShareNets();
        parts(1, 1);
        x.chance(0, 0, v);
        x.chance(0, 1, 4);
        x.chance(1, 1, 4 - v);
        x.seed(seed);
        Wanted wanted = new Wanted(seed, (a, b) -> b < 5 ? v : a >= 5 ? 4 - v : 4, false);
        due(wanted.roads, x.near(1, 10), wanted.z, x.seed(0));
        wanted.compare(1);
    }

    /** Roads of ten posts as z gives them, pair after pair. */
    private final class Wanted {
        final int[] sets = new int[10];
        int roads = 0;
        int z;

        Wanted(int seed, IntBinaryOperator chanceOf, boolean sureOnesToo) {
            z = seed;
            for (int b = 1; b < 10; b++) {
                for (int a = 0; a < b; a++) {
                    int chance = chanceOf.applyAsInt(a, b);
                    boolean byZ = sureOnesToo || chance != 4;
                    z = byZ ? step(z) : z;
                    if (byZ ? (z >>> 16) % 4 < chance : chance == 4) {
                        roads++;
                        sets[a] |= 1 << b;
                        sets[b] |= 1 << a;
                    }
                }
            }
        }

        void compare(int net) {
            for (int post = 0; post < 10; post++) {
                due(sets[post], x.netOf(net, 10 + post));
            }
        }
    }

    private void drawTerms() {
        edge("MIXED by k (0 to 4): each pair likewise, in that order, by k as CHANCE (z for each, whatever k is).", () -> {
            for (int k = 0; k <= 4; k++) {
                for (int seed : new int[] {0, 1, -1, LOW, HIGH}) {
                    mixedBySeed(seed, k);
                }
            }
            x.posts(0, 1);
            x.seed(5);
            due(0, x.mixed(0, 2), 5, x.seed(5), BAD, x.mixed(0, -1), BAD, x.mixed(0, 5), 5, x.seed(5));
        });
        edge("DRAWN m of a NET's POSTS: z goes on for each, and of those that aren't drawn, by numbers, it is the one at place"
            + " (z >>> 16) modulo how many these are.", () -> {
            for (int seed : new int[] {0, 1, -1, LOW, HIGH, 4, 123456789, -987654321}) {
                for (int n = 1; n <= 10; n++) {
                    drawBySeed(seed, n);
                }
            }
        });
    }

    private void mixedBySeed(int seed, int k) {
        x = new ShareNets();
        x.posts(3, 10);
        x.turn(3);
        x.seed(seed);
        Wanted wanted = new Wanted(seed, (a, b) -> k, true);
        due(wanted.roads, x.mixed(3, k), wanted.z, x.seed(0));
        wanted.compare(3);
    }

    /** Draws as many as there are, up to four, of a net by a road of all posts. */
    private void drawBySeed(int seed, int n) {
        x = new ShareNets();
        x.posts(1, n);
        for (int post = 1; post < n; post++) {
            x.road(1, post - 1, post, true);
        }
        for (int m = 1; m <= 4; m++) {
            x.seed(seed);
            if (m > n) {
                due(NONE, x.draw(1, m), seed, x.seed(0));
                continue;
            }
            List<Integer> left = new ArrayList<>();
            for (int post = 0; post < n; post++) {
                left.add(post);
            }
            int[] drawn = new int[m];
            int z = seed;
            int code = 0;
            int bit = 0;
            for (int i = 0; i < m; i++) {
                z = step(z);
                drawn[i] = left.remove((z >>> 16) % left.size());
                for (int j = 0; j < i; j++) {
                    code |= Math.abs(drawn[i] - drawn[j]) == 1 ? 1 << bit : 0;
                    bit++;
                }
            }
            due(Reference.leastOf(m, code), x.draw(1, m), z, x.seed(0));
        }
    }

    private void partCalls() {
        edge("A PART: its number. BAD; FULL.", () -> {
            each(BAD, x.part(0), x.part(10), x.part(-1), x.part(LOW), x.part(HIGH));
            due(0, x.many(0), 0, x.part(9), 1, x.part(1), 2, x.part(9), 3, x.part(1), 4, x.part(9), 5, x.many(0));
            each(FULL, x.part(1), x.part(9), x.part(5));
            each(BAD, x.part(0), x.part(10), x.part(LOW), x.part(HIGH));
            due(5, x.many(0), 0, x.chance(1, 1, 4), 1, x.at(2, 1, 0), 29 * 29, x.at(2, 1, 1), 5, x.bare(), 0, x.part(4));
            x.posts(0, 5);
            due(5, x.blow(0), FULL, x.part(1), 4, x.posts(0, 4), 4, x.blow(0), 4, x.part(1), FULL, x.part(1));
        });
        edge("CHANCE of two PARTS, or of one with itself, becomes v: what it was. BAD.", () -> {
            due(BAD, x.chance(0, 0, 0));
            parts(1, 2, 3);
            for (int v = 0; v <= 4; v++) {
                due(v == 0 ? 0 : v - 1, x.chance(1, 2, v), v, x.chance(2, 1, v), v == 0 ? 0 : v - 1, x.chance(0, 0, v));
            }
            for (int bad : new int[] {-1, 3, 4, 5, LOW, HIGH}) {
                each(BAD, x.chance(bad, 0, 1), x.chance(0, bad, 1), x.chance(bad, bad, 1), x.chance(bad, 0, 9));
            }
            for (int bad : new int[] {-1, 5, LOW, HIGH}) {
                each(BAD, x.chance(0, 1, bad), x.chance(2, 2, bad), x.chance(9, 9, bad));
            }
            due(0, x.chance(0, 1, 0), 0, x.chance(0, 2, 0), 0, x.chance(1, 1, 0), 0, x.chance(2, 2, 0), 4, x.chance(2, 1, 0),
                4, x.chance(0, 0, 0));
        });
        edge("THE LIMIT has no PARTS: how many it had.", () -> {
            due(0, x.bare(), 0, x.bare(), 0, x.part(1), 1, x.bare(), 0, x.bare());
            parts(1, 1, 1, 1, 1);
            allChances(4);
            due(5, x.bare(), 0, x.many(0), BAD, x.chance(0, 0, 0), NONE, x.at(1, 0, 0), NONE, x.freeAt(), NONE, x.near(0, 1), 0, x.part(3),
                0, x.chance(0, 0, 0));
        });
    }

    private void atCalls() {
        edge("AT. BAD: m, no FORM of m, part; NONE: there are no PARTS.", () -> {
            for (int m = 1; m <= 4; m++) {
                for (int form : FORMS[m]) {
                    each(NONE, x.at(m, form, 0), x.at(m, form, 1));
                }
            }
            wrongAts();
            x.part(1);
            wrongAts();
            due(1, x.at(1, 0, 0), 1, x.at(1, 0, 1), 1, x.at(4, 0, 1), 0, x.at(4, 63, 0), 1, x.at(4, 63, 1), 1, x.bare(),
                NONE, x.at(1, 0, 0));
        });
        edge("Whether THE LIMIT is FREE: 1, 0. NONE: there are no PARTS.", () -> {
            due(NONE, x.freeAt(), 1, x.out(2, 0, true), NONE, x.freeAt(), 0, x.part(1), 0, x.freeAt(), 1, x.out(2, 0, false), 1, x.freeAt(),
                1, x.bare(), NONE, x.freeAt());
            due(1, x.out(2, 0, true), 1, x.blow(0), 0, x.freeAt(), 0, x.chance(0, 0, 4), 1, x.freeAt(), 1, x.out(2, 1, true),
                0, x.freeAt());
        });
    }

    private void wrongAts() {
        for (int bad : new int[] {0, 5, -1, LOW, HIGH}) {
            each(BAD, x.at(bad, 0, 0), x.at(bad, 0, 2));
        }
        each(BAD, x.at(1, 1, 0), x.at(2, 2, 0), x.at(3, 2, 0), x.at(3, 11, 0), x.at(4, 14, 1), x.at(4, 64, 1), x.at(4, -1, 0),
            x.at(4, LOW, 0), x.at(4, HIGH, 0));
        each(BAD, x.at(2, 1, 2), x.at(2, 1, -1), x.at(2, 1, LOW), x.at(2, 1, HIGH), x.at(4, 63, 2));
    }

    private void netCalls() {
        edge("THE LIMIT is BLOWN from a NET: how many PARTS. BAD; STATE: it has more than 5 POSTS.", () -> {
            for (int n = 1; n <= 10; n++) {
                x.posts(0, n);
                due(n > 5 ? STATE : n, x.blow(0), Math.min(n, 5), x.many(0));
            }
            for (int bad : NOT_0_TO_3) {
                due(BAD, x.blow(bad), 5, x.many(0));
            }
            due(1, x.at(4, 0, 0), 1, x.blow(3), 1, x.many(0), 0, x.chance(0, 0, 0));
        });
        edge("A NET becomes one of n POSTS (1 to 10) NEAR THE LIMIT: how many ROADS. BAD; NONE: there are no PARTS.", () -> {
            x.posts(0, 3);
            x.turn(0);
            x.seed(9);
            each(NONE, x.near(0, 1), x.near(0, 10), x.near(3, 5));
            for (int bad : new int[] {0, 11, -1, LOW, HIGH}) {
                each(BAD, x.near(0, bad), x.near(4, bad));
            }
            for (int bad : NOT_0_TO_3) {
                each(BAD, x.near(bad, 1), x.near(bad, 0));
            }
            due(3, x.netOf(0, 0), 3, x.netOf(0, 1), 9, x.seed(9), 0, x.part(1), 0, x.chance(0, 0, 4));
            for (int n = 1; n <= 10; n++) {
                due(n * (n - 1) / 2, x.near(0, n), n, x.netOf(0, 0), n * (n - 1) / 2, x.netOf(0, 1));
            }
            x.chance(0, 0, 2);
            for (int bad : new int[] {0, 11, -1, LOW, HIGH}) {
                each(BAD, x.near(0, bad), x.near(-1, bad));
            }
            due(BAD, x.near(4, 5), 45, x.netOf(0, 1), 9, x.seed(9), 2, x.chance(0, 0, 0), 0, x.near(0, 10), 10, x.netOf(0, 0),
                9, x.seed(9));
        });
        edge("A NET's ROADS are MIXED: how many there are. BAD.", () -> {
            x.posts(0, 10);
            x.seed(3);
            due(45, x.mixed(0, 4), 45, x.netOf(0, 1), 0, x.mixed(0, 0), 0, x.netOf(0, 1), 10, x.netOf(0, 0), 45, x.turn(0));
            int z = 3;
            for (int i = 0; i < 90; i++) {
                z = step(z);
            }
            each(BAD, x.mixed(0, -1), x.mixed(0, 5), x.mixed(0, LOW), x.mixed(0, HIGH));
            for (int bad : NOT_0_TO_3) {
                each(BAD, x.mixed(bad, 2), x.mixed(bad, 5));
            }
            due(45, x.netOf(0, 1), z, x.seed(z), 0, x.mixed(1, 4), z, x.seed(0));
        });
    }

    private void drawCalls() {
        edge("DRAWN are m (1 to 4) POSTS of a NET: their FORM. BAD; NONE: it has fewer.", () -> {
            x.seed(-3);
            each(NONE, x.draw(0, 2), x.draw(0, 3), x.draw(0, 4));
            each(BAD, x.draw(0, 0), x.draw(0, 5), x.draw(0, -1), x.draw(0, LOW), x.draw(0, HIGH));
            for (int bad : NOT_0_TO_3) {
                each(BAD, x.draw(bad, 1), x.draw(bad, 2), x.draw(bad, 0), x.draw(bad, 5));
            }
            due(-3, x.seed(-3), 0, x.draw(0, 1), step(-3), x.seed(0));
            for (int n = 2; n <= 10; n++) {
                x.posts(0, n);
                x.turn(0);
                due(0, x.draw(0, 1), 1, x.draw(0, 2), n < 3 ? NONE : 7, x.draw(0, 3), n < 4 ? NONE : 63, x.draw(0, 4), BAD, x.draw(0, 5));
            }
        });
        edge("z becomes v: what it was.", () -> {
            due(1, x.seed(0), 0, x.seed(-1), -1, x.seed(-2), -2, x.seed(-3), -3, x.seed(-4), -4, x.seed(LOW), LOW, x.seed(HIGH),
                HIGH, x.seed(1), 1, x.seed(1));
        });
    }
}
