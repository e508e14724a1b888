/** Each promise of the document by answers reckoned by hand: ordinary ones, edges, refusals in their order. */
public final class PromisesTest {
    public static void main(String[] args) {
        Due due = new Due();
        town(due);
        pad(due);
        hours(due);
        stamps(due);
        seatsAndOdds(due);
        sights(due);
        images(due);
        due.finish();
    }

    private static void run(Due due, String title, String text) {
        new Script(due).run(title, text);
    }

    private static void town(Due due) {
        run(due, "promise 1", """
                told 0 = 0
                told 1 = 0
                told 2 = 9
                told 3 = 2
                told 4 = 0
                told 10 = OUTSIDE
                told 60 = OUTSIDE
                fault = NONE
                who = 0
                hears 0 = UNKNOWN
                restore 0 = STATE
                restore 1 = STATE
                """);
        run(due, "promise 2", """
                one 0 0 0 0 0 = 1
                one 5 9 99 999 9 = 2
                one 2 4 7 30 3 = 3
                told 1 = 37
                told 30 = 4
                told 31 = 0
                told 32 = 7
                told 33 = 30
                told 34 = 3
                told 35 = NONE
                told 60 = 9
                told 62 = 99
                told 63 = 999
                told 64 = 9
                # anew: the permit and the cause go
                permit 2 6 = 0
                pad Ch1
                done = 1
                told 35 = 0
                one 2 1 2 3 4 = 3
                told 30 = 1
                told 31 = 0
                told 32 = 2
                told 33 = 3
                told 34 = 4
                told 35 = NONE
                # so they do for one that comes back
                permit 2 9 = 0
                pad Ck1
                done = 1
                leave 2 = 2
                one 2 1 2 3 4 = 3
                told 31 = 0
                told 35 = NONE
                # a sight stays, and speaks of the one that is there now
                seen 2 true = 1
                one 2 0 0 0 9 = 3
                told 4 = 1
                who = 36
                # LIMIT bounds TEMPER
                set 0 20 = 9
                one 1 20 0 0 0 = 4
                one 1 21 0 0 0 = OUTSIDE
                told 20 = 20
                """);
        run(due, "promise 2, refusals", """
                one 1 5 6 7 8 = 1
                keep
                one -1 0 0 0 0 = UNKNOWN
                one 6 0 0 0 0 = UNKNOWN
                one MAX 0 0 0 0 = UNKNOWN
                one MIN 0 0 0 0 = UNKNOWN
                one 6 -1 -1 -1 -1 = UNKNOWN
                one 0 -1 0 0 0 = OUTSIDE
                one 1 10 0 0 0 = OUTSIDE
                one 0 0 -1 0 0 = OUTSIDE
                one 1 0 100 0 0 = OUTSIDE
                one 0 0 0 -1 0 = OUTSIDE
                one 1 0 0 1000 0 = OUTSIDE
                one 0 0 0 0 -1 = OUTSIDE
                one 1 0 0 0 10 = OUTSIDE
                one 1 MAX MAX MAX MAX = OUTSIDE
                one 1 MIN MIN MIN MIN = OUTSIDE
                same
                """);
        run(due, "promise 3", """
                leave 0 = UNKNOWN
                one 0 9 0 0 0 = 1
                one 3 2 0 0 0 = 2
                hears 3 = 1
                keep
                leave -1 = UNKNOWN
                leave 6 = UNKNOWN
                leave 1 = UNKNOWN
                leave MAX = UNKNOWN
                leave MIN = UNKNOWN
                leave 32 = UNKNOWN
                same
                leave 0 = 1
                leave 0 = UNKNOWN
                told 1 = 8
                told 10 = OUTSIDE
                hears 0 = UNKNOWN
                hears 3 = 0
                # the temper of one who left holds no LIMIT up
                set 0 2 = 9
                leave 3 = 0
                told 1 = 0
                """);
        run(due, "promise 4", """
                permit 0 0 = UNKNOWN
                one 0 0 0 0 0 = 1
                permit 0 15 = 0
                permit 0 6 = 15
                permit 0 0 = 6
                permit 0 8 = 0
                told 11 = 8
                keep
                permit 1 3 = UNKNOWN
                permit -1 3 = UNKNOWN
                permit 6 3 = UNKNOWN
                permit 1 16 = UNKNOWN
                permit 0 16 = OUTSIDE
                permit 0 -1 = OUTSIDE
                permit 0 MAX = OUTSIDE
                permit 0 MIN = OUTSIDE
                same
                """);
        run(due, "promise 5", """
                set 0 1 = 9
                set 0 20 = 1
                set 1 0 = 2
                set 1 9 = 0
                told 2 = 20
                told 3 = 9
                one 0 12 0 0 0 = 1
                one 1 7 0 0 0 = 2
                keep
                set 0 11 = STATE
                set 0 1 = STATE
                set 0 0 = OUTSIDE
                set 0 21 = OUTSIDE
                set 0 -1 = OUTSIDE
                set 0 MIN = OUTSIDE
                set 1 -1 = OUTSIDE
                set 1 10 = OUTSIDE
                set 2 5 = OUTSIDE
                set -1 5 = OUTSIDE
                same
                set 0 12 = 20
                set 1 3 = 9
                told 2 = 12
                told 3 = 3
                """);
        run(due, "promise 27", """
                one 1 5 6 7 8 = 1
                permit 1 12 = 0
                pad Bk1.
                done = 2
                seen 1 true = 1
                seen 1 false = 2
                set 0 10 = 9
                set 1 4 = 2
                say 65 = 1
                told 0 = 1
                told 1 = 2
                told 2 = 10
                told 3 = 4
                told 4 = 2
                told 20 = 5
                told 21 = 12
                told 22 = 6
                told 23 = 7
                told 24 = 8
                told 25 = 3
                told 26 = OUTSIDE
                told 29 = OUTSIDE
                told 19 = OUTSIDE
                told 10 = OUTSIDE
                told 30 = OUTSIDE
                told 5 = OUTSIDE
                told 9 = OUTSIDE
                told -1 = OUTSIDE
                told -10 = OUTSIDE
                told 70 = OUTSIDE
                told 65 = OUTSIDE
                told 66 = OUTSIDE
                told 330 = OUTSIDE
                told MAX = OUTSIDE
                told MIN = OUTSIDE
                one 5 1 2 3 4 = 2
                told 60 = 1
                told 64 = 4
                told 65 = NONE
                told 66 = OUTSIDE
                """);
    }

    private static void pad(Due due) {
        run(due, "promise 6", """
                say 32 = OUTSIDE
                say 127 = OUTSIDE
                say 0 = OUTSIDE
                say -1 = OUTSIDE
                say MAX = OUTSIDE
                say MIN = OUTSIDE
                told 0 = 0
                say 33 = 1
                say 126 = 2
                told 0 = 2
                fault = 0
                pad ............................................................
                told 0 = 60
                keep
                say 46 = FULL
                say 32 = OUTSIDE
                same
                fault = NONE
                done = 60
                say 46 = 1
                """);
        run(due, "promise 7", """
                wipe = 0
                pad Ah1zzz
                wipe = 6
                told 0 = 0
                fault = NONE
                wipe = 0
                """);
        run(due, "promise 8", """
                fault = NONE
                pad .
                fault = NONE
                pad A
                fault = 1
                pad F
                fault = 1
                pad G
                fault = 0
                pad @
                fault = 0
                pad a
                fault = 0
                pad 1
                fault = 0
                pad ..h
                fault = 2
                pad A.
                fault = 1
                pad AA
                fault = 1
                pad A1
                fault = 1
                pad Ax9
                fault = 1
                pad Ah
                fault = 2
                pad Ah0
                fault = 2
                pad Ah:
                fault = 2
                pad Ah1
                fault = NONE
                pad Ar9
                fault = NONE
                pad At5
                fault = NONE
                pad Fk5
                fault = NONE
                pad A!
                fault = 2
                pad A!0
                fault = 2
                pad A!:
                fault = 2
                pad A!1F!9
                fault = NONE
                pad A@
                fault = 2
                pad A@0B@9
                fault = NONE
                pad A@/
                fault = 2
                pad A@:
                fault = 2
                pad A>
                fault = 2
                pad A>0
                fault = 2
                pad A>1
                fault = 3
                pad A>1G
                fault = 3
                pad A>1@
                fault = 3
                pad A>1.
                fault = 3
                pad A>9A
                fault = NONE
                pad A>1FB
                fault = 5
                pad A>1FBr
                fault = 6
                pad Ah1.B>2C.D@0x.A
                fault = 12
                # what stands behind the first such sign is no matter
                pad zzz
                fault = 0
                pad ...........................................................A
                fault = 60
                """);
    }

    private static void hours(Due due) {
        run(due, "promise 9", """
                judge 0 = NONE
                judge 1 = NONE
                judge 2 = 0
                one 0 5 3 40 0 = 1
                one 1 2 10 20 2 = 2
                one 2 0 0 2 5 = 3
                permit 0 1 = 0
                permit 1 2 = 0
                # LIMIT is no slip, one more is
                pad Ah4
                judge 2 = 0
                pad Ah5
                judge 2 = 1
                judge 0 = NONE
                judge 1 = NONE
                pad Ah5Ak9Ar1Ct9.Ct9
                judge 2 = 3
                # reason 1
                pad Dh1
                judge 0 = 0
                judge 1 = 1
                judge 2 = STATE
                pad .D!1
                judge 0 = 1
                judge 1 = 1
                pad ..D@0
                judge 0 = 2
                judge 1 = 1
                pad D>1A
                judge 1 = 1
                pad A>1D
                judge 1 = 1
                pad D>1D
                judge 1 = 1
                pad A>9F
                judge 1 = 1
                # reason 2
                pad A>1A
                judge 1 = 2
                pad A>9A
                judge 1 = 2
                pad A@0
                judge 1 = 2
                pad A@1A@1
                judge 0 = 1
                judge 1 = 2
                pad A@1A@0A@0
                judge 0 = 2
                # reason 3 comes ahead of 4 and 5, 4 ahead of 5
                pad A!6
                judge 1 = 3
                pad A!4
                judge 1 = 4
                pad Ar1A!4
                judge 0 = 1
                judge 1 = 4
                pad Ah1A!4
                judge 1 = 5
                pad Ah1A!3
                judge 1 = NONE
                pad Ah1A!3A!3
                judge 0 = 2
                judge 1 = 5
                pad Ah1A!3A!4
                judge 1 = 3
                # the last mishap's cause is what counts
                pad Ah1Ar1A!1
                judge 1 = 4
                pad Ar1Ah1A!1
                judge 1 = NONE
                # a slip's cause counts too, but the temper is gone
                pad Ah9A!1
                judge 1 = 3
                pad Ah9Ah1A!1
                judge 1 = NONE
                # 5 ahead of 6
                pad A>4B
                judge 1 = 5
                pad A>3C
                judge 1 = 6
                pad A>2C
                judge 1 = NONE
                pad A>2CA>1C
                judge 0 = 1
                judge 1 = 6
                # what can not be is told of the first such act only
                pad A!1D!1
                judge 0 = 0
                judge 1 = 4
                pad B@2D!1
                judge 1 = 2
                """);
        run(due, "promise 9, as many as can be held", """
                one 0 0 50 990 0 = 1
                one 1 0 90 500 0 = 2
                # 99 stamps are not too many, 100 are
                pad A>9B
                judge 1 = NONE
                pad A>9BA>1B
                judge 0 = 1
                judge 1 = 6
                # nor is a purse of 999, 1000 is
                one 1 0 0 500 0 = 2
                pad A>9B
                judge 1 = NONE
                behind 0 2 = 999
                pad A>9BA>1B
                judge 0 = 1
                judge 1 = 6
                # a buyer's purse may be empty then
                one 1 0 0 9 0 = 2
                pad A>9B
                judge 1 = NONE
                behind 1 2 = 0
                """);
        run(due, "promise 9, refusals", """
                one 0 5 3 40 0 = 1
                pad A
                keep
                judge 3 = OUTSIDE
                judge -1 = OUTSIDE
                judge MIN = OUTSIDE
                judge 0 = NO
                judge 1 = NO
                judge 2 = NO
                pad B!1A
                judge 0 = NO
                judge 2 = NO
                pad B!1
                judge 2 = STATE
                judge 3 = OUTSIDE
                told 10 = 5
                """);
        run(due, "promise 10", """
                one 0 5 3 40 0 = 1
                one 1 2 10 20 2 = 2
                one 2 0 0 2 5 = 3
                behind 0 0 = 5
                behind 0 1 = 3
                behind 0 2 = 40
                behind 0 3 = 0
                behind 0 4 = NONE
                permit 0 8 = 0
                pad Ak3A!2B@9C@4.
                behind 0 0 = 5
                behind 0 1 = 1
                behind 0 4 = 3
                behind 1 0 = 1
                behind 1 3 = 9
                behind 2 0 = 0
                behind 2 3 = 4
                told 10 = 5
                told 24 = 2
                pad B>2C
                behind 1 1 = 8
                behind 1 2 = 22
                behind 2 1 = 2
                behind 2 2 = 0
                pad At9
                behind 0 0 = 0
                behind 0 2 = 26
                behind 0 4 = 2
                # hours end for all, and no temper goes below 0
                pad ...
                behind 0 0 = 2
                behind 1 0 = 0
                behind 2 0 = 0
                pad Ah4.....
                behind 0 0 = 4
                pad A
                behind 3 0 = UNKNOWN
                behind -1 0 = UNKNOWN
                behind 6 9 = UNKNOWN
                behind 0 5 = OUTSIDE
                behind 0 -1 = OUTSIDE
                behind 0 MAX = OUTSIDE
                behind 0 0 = NO
                behind 0 4 = NO
                pad A@0
                behind 3 0 = UNKNOWN
                behind 0 5 = OUTSIDE
                behind 1 3 = STATE
                pad A@0B
                behind 0 0 = NO
                """);
        run(due, "promise 11", """
                one 0 5 3 40 0 = 1
                one 1 2 10 20 2 = 2
                one 2 0 0 200 5 = 3
                slipped 0 = NONE
                slipped 1 = NONE
                slipped 2 = 0
                slipped 3 = 0
                # TEMPER above LIMIT, 10, times one who hears
                pad ..Br1Ah8
                slipped 0 = 3
                slipped 1 = 0
                slipped 2 = 1
                slipped 3 = 11
                behind 0 2 = 29
                # nobody hears: nothing is paid, and the second slip is not told as the first
                pad Ct9Ct9Ar7
                slipped 0 = 1
                slipped 1 = 2
                slipped 2 = 0
                slipped 3 = 12
                # who has come nearer hears, and what is paid is paid by all
                pad C@4Bh8Ar9Ch9Ch1
                slipped 0 = 1
                slipped 1 = 1
                slipped 2 = 2
                slipped 3 = 44
                behind 1 2 = 0
                behind 0 2 = 26
                behind 2 2 = 190
                told 13 = 40
                # as far as the purse goes
                set 1 9 = 2
                pad Bh9
                slipped 2 = 2
                slipped 3 = 20
                pad Bh9Bh9Bh9
                judge 2 = 2
                slipped 3 = 20
                # what an earlier pad came to is forgotten
                pad .
                slipped 0 = NONE
                slipped 1 = NONE
                slipped 2 = 0
                slipped 3 = 0
                judge 2 = 0
                pad A
                slipped 4 = OUTSIDE
                slipped -1 = OUTSIDE
                slipped MIN = OUTSIDE
                slipped 0 = NO
                slipped 3 = NO
                pad Ah9A@0
                slipped 0 = STATE
                slipped 1 = STATE
                slipped 2 = STATE
                slipped 3 = STATE
                slipped 4 = OUTSIDE
                pad Ah9A@0A
                slipped 0 = NO
                """);
        run(due, "promise 12", """
                done = 0
                one 0 5 3 40 0 = 1
                one 1 2 10 20 2 = 2
                permit 0 2 = 0
                seen 0 true = 1
                pad Ar2A!3B>1AA@7.
                done = 5
                told 0 = 0
                fault = NONE
                told 1 = 3
                told 4 = 1
                told 10 = 3
                told 11 = 2
                told 12 = 1
                told 13 = 39
                told 14 = 7
                told 15 = 1
                told 20 = 1
                told 22 = 9
                told 23 = 21
                told 24 = 2
                told 25 = NONE
                # what was done is what the next hours begin from
                pad A!1
                judge 2 = 0
                done = 1
                told 10 = 2
                pad A!1
                keep
                done = STATE
                same
                pad A!1A
                keep
                done = NO
                same
                pad A
                done = NO
                told 0 = 1
                """);
        run(due, "promise 13", """
                hears 0 = UNKNOWN
                one 0 0 0 0 0 = 1
                hears 0 = 0
                one 1 0 0 0 2 = 2
                one 2 0 0 0 3 = 3
                one 4 0 0 0 5 = 4
                one 5 0 0 0 9 = 5
                hears 0 = 2
                hears 1 = 5
                hears 2 = 18
                hears 4 = 4
                hears 5 = 0
                set 1 3 = 2
                hears 0 = 6
                hears 1 = 21
                set 1 0 = 3
                hears 1 = 0
                one 2 0 0 0 2 = 5
                hears 1 = 4
                set 1 9 = 0
                hears 5 = 23
                hears 3 = UNKNOWN
                hears -1 = UNKNOWN
                hears 6 = UNKNOWN
                hears 32 = UNKNOWN
                hears MAX = UNKNOWN
                hears MIN = UNKNOWN
                # now: the pad is no matter
                pad A@9
                hears 5 = 23
                """);
    }

    private static void stamps(Due due) {
        run(due, "promise 14", """
                spend 5 20 450000 0 = 0
                spend 5 20 450000 1 = 4
                spend 5 20 450000 2 = 400000
                spend 5 4 450000 0 = 0
                # too few stamps: a slip, and then none is worth while
                spend 5 3 450000 0 = 1
                spend 5 3 450000 1 = 0
                spend 5 3 450000 2 = 0
                # a slip itself that can not be helped
                spend 9 20 100000 0 = 1
                spend 9 20 100000 1 = 0
                # the last hour's digit is the lowest: 9 8 7 6 5 4, then one more is no slip
                spend 9 0 1 0 = 0
                spend 9 0 5 0 = 0
                spend 9 0 6 0 = 1
                spend 9 1 6 0 = 0
                # of all hours in which that one stamp helps the last gives the least number
                spend 9 1 6 1 = 1
                spend 9 1 6 2 = 10
                # an hour without a mishap has its oath too
                spend 9 20 50000 0 = 0
                spend 9 20 50000 1 = 4
                spend 9 20 50000 2 = 400000
                spend 9 20 90 0 = 0
                spend 9 20 90 1 = 5
                spend 9 20 90 2 = 500
                # no oath above TEMPER, none above 9
                spend 0 20 999999 0 = 2
                spend 0 20 999999 1 = 8
                spend 0 7 999999 0 = 3
                spend 0 20 99 1 = 8
                spend 0 20 99 2 = 80
                spend 0 7 99 0 = 1
                spend 0 20 0 2 = 0
                spend 9 20 999999 0 = 2
                """);
        run(due, "promise 14, a high LIMIT", """
                set 0 20 = 9
                spend 20 20 999999 0 = 2
                spend 20 20 999999 1 = 0
                spend 0 20 999999 1 = 5
                spend 0 20 999999 2 = 50
                # 20 by the first mishap, 11 at the most before the second, 1 of it by the hour
                spend 11 20 990000 0 = 0
                spend 11 20 990000 1 = 8
                spend 20 20 9000 2 = 70000
                spend 20 20 90000 2 = 800000
                spend 20 20 90000 1 = 8
                set 0 1 = 20
                spend 1 20 111111 0 = 1
                spend 0 20 111111 0 = 0
                spend 0 20 222222 0 = 6
                spend 0 20 222222 1 = 0
                """);
        run(due, "promise 14, refusals", """
                one 0 5 3 40 0 = 1
                keep
                spend -1 0 0 0 = OUTSIDE
                spend 10 0 0 0 = OUTSIDE
                spend 0 -1 0 0 = OUTSIDE
                spend 0 21 0 0 = OUTSIDE
                spend 0 0 -1 0 = OUTSIDE
                spend 0 0 1000000 0 = OUTSIDE
                spend 0 0 0 -1 = OUTSIDE
                spend 0 0 0 3 = OUTSIDE
                spend MAX MAX MAX MAX = OUTSIDE
                spend MIN MIN MIN MIN = OUTSIDE
                same
                spend 9 20 999999 0 = 2
                """);
        run(due, "promise 15", """
                deal 20 999999 -1 = 0
                deal 20 999999 0 = UNKNOWN
                one 1 2 0 0 0 = 1
                # one alone gets all, what it can not use too
                deal 0 0 1 = 0
                deal 20 0 1 = 20
                deal 20 0 -1 = 0
                one 3 0 50 0 0 = 2
                one 4 9 0 0 0 = 3
                # 1 and 4 slip at once, 3 before the second mishap if it has not 8
                deal 0 990000 -1 = 3
                deal 0 790000 -1 = 3
                deal 6 790000 -1 = 2
                deal 6 790000 1 = 0
                deal 6 790000 3 = 6
                deal 6 790000 4 = 0
                deal 14 790000 -1 = 1
                deal 14 790000 1 = 8
                deal 14 790000 3 = 6
                deal 14 790000 4 = 0
                deal 16 790000 -1 = 1
                deal 16 790000 1 = 8
                deal 16 790000 3 = 6
                deal 16 790000 4 = 2
                # the first way gives ONE 0 least, then ONE 1
                deal 9 0 1 = 0
                deal 9 0 3 = 0
                deal 9 0 4 = 9
                # before the second mishap 0 needs 4, 1 needs 1, and 4 slips anyhow
                one 0 5 0 0 0 = 4
                deal 0 450000 -1 = 3
                deal 4 450000 -1 = 2
                deal 4 450000 0 = 0
                deal 4 450000 1 = 1
                deal 4 450000 3 = 0
                deal 4 450000 4 = 3
                deal 5 450000 -1 = 1
                deal 5 450000 0 = 4
                deal 5 450000 1 = 1
                deal 5 450000 4 = 0
                """);
        run(due, "promise 15, refusals", """
                one 1 2 0 0 0 = 1
                keep
                deal 0 0 0 = UNKNOWN
                deal 0 0 -2 = UNKNOWN
                deal 0 0 6 = UNKNOWN
                deal 21 0 0 = UNKNOWN
                deal 0 -1 MAX = UNKNOWN
                deal 0 0 MIN = UNKNOWN
                deal -1 0 1 = OUTSIDE
                deal 21 0 1 = OUTSIDE
                deal 0 -1 -1 = OUTSIDE
                deal 0 1000000 -1 = OUTSIDE
                deal MAX MIN -1 = OUTSIDE
                same
                leave 1 = 0
                deal 21 0 -1 = OUTSIDE
                deal 0 1000000 -1 = OUTSIDE
                deal 21 0 1 = UNKNOWN
                """);
        run(due, "promise 17", """
                cover 6 6 999999 999999 0 = 0
                cover 6 6 999999 999999 1 = 333333
                one 0 0 0 0 0 = 1
                one 1 0 0 0 0 = 2
                one 2 0 0 0 0 = 3
                cover 1 1 123000 321000 0 = 6
                cover 1 1 123000 321000 1 = 120333
                cover 0 0 123456 123456 0 = 0
                cover 0 0 123456 123456 1 = 222333
                cover 1 0 123999 999999 0 = 3
                cover 1 0 123999 999999 1 = 220333
                cover 0 1 999999 123999 1 = 221333
                cover 2 0 123000 0 1 = 200333
                cover 6 6 111000 111000 0 = 3
                cover 6 6 111000 111000 1 = 333
                cover 3 6 120000 211000 0 = 5
                cover 3 6 120000 211000 1 = 101333
                # a permit for none costs nothing, and gives a smaller number
                cover 6 6 0 0 1 = 333
                cover 1 1 0 0 1 = 12333
                cover 0 2 0 0 1 = 112333
                # six digits: ONE 5's is the lowest
                leave 1 = 2
                one 5 0 0 0 0 = 3
                cover 1 0 90008 0 1 = 232330
                cover 0 1 0 190018 1 = 232331
                cover 2 1 900008 900009 0 = 18
                cover 2 1 900008 900009 1 = 30331
                keep
                cover -1 0 0 0 0 = OUTSIDE
                cover 7 0 0 0 0 = OUTSIDE
                cover 0 -1 0 0 0 = OUTSIDE
                cover 0 7 0 0 0 = OUTSIDE
                cover 0 0 -1 0 0 = OUTSIDE
                cover 0 0 1000000 0 0 = OUTSIDE
                cover 0 0 0 -1 0 = OUTSIDE
                cover 0 0 0 1000000 0 = OUTSIDE
                cover 0 0 0 0 -1 = OUTSIDE
                cover 0 0 0 0 2 = OUTSIDE
                cover MIN MAX MIN MAX MIN = OUTSIDE
                same
                """);
    }

    private static void seatsAndOdds(Due due) {
        run(due, "promise 16", """
                seats 0 0 = 1
                seats 0 1 = 0
                one 4 9 0 0 0 = 1
                # one alone has no neighbour
                seats 0 0 = 1
                seats 0 1 = 4
                leave 4 = 0
                one 0 1 0 0 0 = 1
                one 1 2 0 0 0 = 2
                one 2 3 0 0 0 = 3
                seats 4 0 = 2
                seats 4 1 = 102
                seats 3 0 = 0
                seats 3 1 = NONE
                seats 5 0 = 6
                seats 5 1 = 12
                seats 40 0 = 6
                leave 1 = 2
                seats 4 0 = 2
                seats 4 1 = 2
                seats 3 0 = 0
                one 3 0 0 0 0 = 3
                seats 3 0 = 2
                seats 3 1 = 32
                """);
        run(due, "promise 16, all six", """
                set 0 20 = 9
                one 0 20 0 0 0 = 1
                one 1 20 0 0 0 = 2
                one 2 20 0 0 0 = 3
                one 3 0 0 0 0 = 4
                one 4 0 0 0 0 = 5
                one 5 0 0 0 0 = 6
                seats 40 0 = 720
                seats 40 1 = 12345
                seats 39 0 = 144
                seats 39 1 = 31425
                seats 20 0 = 144
                seats 19 0 = 0
                seats 19 1 = NONE
                keep
                seats -1 0 = OUTSIDE
                seats 41 0 = OUTSIDE
                seats 0 -1 = OUTSIDE
                seats 0 2 = OUTSIDE
                seats MIN MAX = OUTSIDE
                same
                """);
        run(due, "promise 18", """
                # no hours
                risk 9 0 9 10 0 0 = 1
                risk 9 0 9 10 0 1 = 1
                risk 9 0 9 10 1 0 = 0
                risk 9 0 9 10 1 1 = 1
                # it can not slip, it must slip
                risk 0 1 9 10 0 0 = 1
                risk 0 1 9 10 1 0 = 0
                risk 1 1 9 10 0 0 = 0
                risk 1 1 9 10 0 1 = 1
                risk 1 1 9 10 1 0 = 1
                risk 1 1 9 10 1 1 = 1
                risk 1 8 9 0 0 0 = 1
                risk 1 8 9 0 1 0 = 0
                # from 9 by 1 it slips with 3/10, else 8 stands, from which it can not
                risk 9 1 1 3 0 0 = 7
                risk 9 1 1 3 0 1 = 10
                risk 9 2 1 3 0 0 = 7
                risk 9 2 1 3 0 1 = 10
                # by 2: from 9 slips with 3/10, else 8 stands, which slips with 3/10 again
                risk 9 2 2 3 0 0 = 49
                risk 9 2 2 3 0 1 = 100
                risk 9 2 2 3 1 0 = 51
                risk 9 2 2 3 1 1 = 100
                # the hour ends behind a mishap too: 5 less 1, 9 less 1, 13
                risk 0 2 5 10 0 0 = 1
                risk 0 3 5 10 0 0 = 0
                risk 0 3 5 10 1 0 = 1
                risk 9 2 2 5 1 0 = 3
                risk 9 2 2 5 1 1 = 4
                # who slipped goes on from 0: a slip, then 9, then a slip again
                risk 9 3 9 10 1 0 = 2
                risk 9 3 9 10 0 0 = 0
                risk 9 8 1 10 1 0 = 1
                risk 9 8 1 10 1 1 = 1
                # it slips only if there is a mishap in both hours
                risk 0 2 9 2 0 0 = 24
                risk 0 2 9 2 0 1 = 25
                set 0 20 = 9
                risk 20 8 9 5 0 0 = 1
                risk 20 8 9 5 1 0 = 427
                risk 20 8 9 5 1 1 = 256
                """);
        run(due, "promise 18, refusals", """
                one 0 5 3 40 0 = 1
                keep
                risk -1 0 1 0 0 0 = GONE+OUTSIDE
                risk 10 0 1 0 0 0 = GONE+OUTSIDE
                risk 0 -1 1 0 0 0 = GONE+OUTSIDE
                risk 0 9 1 0 0 0 = GONE+OUTSIDE
                risk 0 0 0 0 0 0 = GONE+OUTSIDE
                risk 0 0 10 0 0 0 = GONE+OUTSIDE
                risk 0 0 1 -1 0 0 = GONE+OUTSIDE
                risk 0 0 1 11 0 0 = GONE+OUTSIDE
                risk 0 0 1 0 -1 0 = GONE+OUTSIDE
                risk 0 0 1 0 2 0 = GONE+OUTSIDE
                risk 0 0 1 0 0 -1 = GONE+OUTSIDE
                risk 0 0 1 0 0 2 = GONE+OUTSIDE
                risk MAX MAX MAX MAX MAX MAX = GONE+OUTSIDE
                risk MIN MIN MIN MIN MIN MIN = GONE+OUTSIDE
                same
                """);
    }

    private static void sights(Due due) {
        run(due, "promises 19, 20, 21", """
                who = 0
                forget = 0
                seen 0 true = UNKNOWN
                one 0 0 0 0 0 = 1
                one 1 0 0 0 2 = 2
                one 2 0 0 0 4 = 3
                one 3 0 0 0 7 = 4
                who = 15
                seen 1 true = 1
                who = 7
                # who slipped heard it
                seen 0 false = 2
                who = 4
                told 4 = 2
                forget = 2
                told 4 = 0
                who = 15
                forget = 0
                # who slipped can not have not heard it
                seen 3 false = 1
                who = 7
                seen 3 true = 2
                who = 0
                forget = 2
                # yards and ears as now
                seen 0 true = 1
                who = 3
                set 1 4 = 2
                who = 7
                one 3 0 0 0 1 = 4
                who = 15
                # of one who is no more there it is so by nobody, heard or not
                leave 0 = 3
                who = 0
                one 0 0 0 0 9 = 4
                who = 1
                forget = 1
                seen 0 false = 1
                who = 14
                leave 0 = 3
                who = 0
                ask 0 = NONE
                """);
        run(due, "promise 19, refusals", """
                one 2 0 0 0 4 = 1
                seen -1 true = UNKNOWN
                seen 6 true = UNKNOWN
                seen 1 false = UNKNOWN
                seen MAX false = UNKNOWN
                seen 2 true = 1
                seen 2 true = 2
                seen 2 true = 3
                seen 2 true = 4
                seen 2 true = 5
                seen 2 true = 6
                seen 2 true = 7
                who = 4
                seen 2 false = 8
                who = 0
                keep
                seen 2 true = FULL
                seen 3 true = UNKNOWN
                same
                forget = 8
                seen 2 true = 1
                who = 4
                """);
        run(due, "promise 22", """
                ask 0 = NONE
                ask 1 = NONE
                one 0 0 0 0 0 = 1
                ask 0 = 0
                ask 1 = 1
                one 1 0 0 0 2 = 2
                one 2 0 0 0 4 = 3
                one 3 0 0 0 7 = 4
                one 4 0 0 0 9 = 5
                # 0 splits two and three, 1 three and two
                ask 0 = 0
                ask 1 = 3
                seen 1 true = 1
                # of 0, 1, 2: asking 0 leaves 2 or 1
                ask 0 = 0
                ask 1 = 2
                seen 0 true = 2
                # of 0, 1: asking 0 or 1 leaves 2, asking 2 leaves 1
                ask 0 = 2
                ask 1 = 1
                seen 2 true = 3
                # one is left, whoever is asked
                who = 2
                ask 0 = 0
                ask 1 = 1
                seen 2 false = 4
                ask 0 = NONE
                ask 1 = NONE
                ask 2 = OUTSIDE
                ask -1 = OUTSIDE
                ask MAX = OUTSIDE
                """);
        run(due, "promise 22, all six in one yard", """
                one 0 0 0 0 0 = 1
                one 1 0 0 0 0 = 2
                one 2 0 0 0 0 = 3
                one 3 0 0 0 0 = 4
                one 4 0 0 0 0 = 5
                one 5 0 0 0 0 = 6
                ask 0 = 0
                ask 1 = 6
                # far off, the last one asked tells one from five
                one 5 0 0 0 9 = 6
                ask 0 = 0
                ask 1 = 5
                leave 0 = 5
                ask 0 = 1
                ask 1 = 4
                """);
        run(due, "promise 23", """
                quarrel 0 1 0 = 0
                quarrel 0 1 1 = NONE
                quarrel 0 9 0 = 0
                quarrel 1 1 0 = 1
                quarrel 1 1 1 = 1
                quarrel 2 1 0 = 0
                quarrel 4 9 1 = 4
                quarrel 9 9 1 = 9
                quarrel 10 9 0 = 0
                quarrel 10 9 1 = NONE
                quarrel 11 9 1 = 1
                quarrel 13 4 0 = 1
                quarrel 13 4 1 = 3
                quarrel 15 4 0 = 0
                quarrel 99 9 1 = 9
                quarrel 99 1 1 = 1
                quarrel 98 1 1 = NONE
                quarrel -1 1 0 = OUTSIDE
                quarrel 100 1 0 = OUTSIDE
                quarrel 0 0 0 = OUTSIDE
                quarrel 0 10 0 = OUTSIDE
                quarrel 0 1 -1 = OUTSIDE
                quarrel 0 1 2 = OUTSIDE
                quarrel MAX MAX 0 = OUTSIDE
                quarrel 5 -1 0 = OUTSIDE
                quarrel MIN MIN MIN = OUTSIDE
                """);
        run(due, "promise 24", """
                year 0 99 0 = 0
                year 0 99 1 = 0
                year 0 99 2 = 0
                one 2 7 20 40 5 = 1
                # 74: an oath of 2 by C; 5624: a mishap of CAUSE 1, weight 3; without an oath it slips
                year 0 1 2 = 7
                year 0 1 0 = 0
                year 0 2 0 = 1
                year 0 2 1 = 0
                year 0 2 2 = 0
                one 3 1 0 0 5 = 2
                year 0 2 0 = 1
                year 0 2 1 = 10
                year 0 2 2 = 1
                permit 2 2 = 0
                year 0 2 0 = 1
                pad Cr1
                done = 1
                told 30 = 8
                # now the oath can be: 8 less 2, and 3 more
                year 0 1 2 = 7
                year 0 2 0 = 0
                year 0 2 2 = 10
                told 30 = 8
                told 32 = 20
                """);
        run(due, "promise 24, act by act", """
                one 2 0 9 40 5 = 1
                one 5 0 9 40 5 = 2
                # F: a mishap of cause k, weight 1; C: of t, 4
                year 1 1 2 = 1
                year 8 1 2 = 4
                # F: of t, 2; F: of r, 3
                year 3 1 2 = 2
                year 5 1 2 = 3
                # an hour ends, whether the ONE that is drawn is there or not
                pad Ch5Fh2
                done = 2
                year 6 1 2 = 5
                year 15 1 2 = 5
                leave 2 = 1
                year 6 1 2 = 1
                year 15 1 2 = 1
                # of one who is not there: nothing
                year 8 1 2 = 2
                keep
                year -1 1 0 = OUTSIDE
                year 10000 1 0 = OUTSIDE
                year 0 0 0 = OUTSIDE
                year 0 100 0 = OUTSIDE
                year 0 1 -1 = OUTSIDE
                year 0 1 3 = OUTSIDE
                year MAX MAX MAX = OUTSIDE
                year MIN MIN MIN = OUTSIDE
                same
                """);
        run(due, "promise 24, two acts behind one another", """
                one 2 0 9 0 5 = 1
                one 3 0 9 0 5 = 2
                one 5 0 9 0 5 = 3
                # 21224, 18986: C by t 3, an oath of 1; 26849, 47639: F by k 5, an oath of 3
                year 282 2 2 = 3
                permit 2 4 = 0
                year 282 2 2 = 2
                year 282 1 2 = 3
                permit 5 8 = 0
                year 357 2 2 = 2
                permit 5 7 = 8
                year 357 2 2 = 5
                # 47474, 21626: C by r 5, an oath of 1; 14787, 60507: D by h 6, an oath of 1
                permit 2 2 = 4
                year 632 2 2 = 4
                permit 2 13 = 2
                year 632 2 2 = 5
                permit 3 1 = 0
                year 1070 2 2 = 5
                permit 3 14 = 1
                year 1070 2 2 = 6
                # 29092, by the highest seed: E by t 8
                year 9999 1 2 = 0
                one 4 0 0 0 5 = 4
                year 9999 1 2 = 8
                """);
        run(due, "promise 24, sales and walks", """
                # 5699, 34277: F sells 1 to E, and has a mishap of weight 8
                one 5 2 1 0 5 = 1
                one 4 0 0 1 5 = 2
                year 75 2 0 = 1
                year 75 2 1 = 1
                one 4 0 0 0 5 = 2
                year 75 2 1 = 0
                one 4 0 99 1 5 = 2
                year 75 2 1 = 0
                # 10649, 12305: F goes to yard 1, and has a mishap of weight 2
                one 5 8 0 50 9 = 2
                one 4 0 0 0 1 = 2
                year 141 2 0 = 1
                year 141 2 1 = 10
                one 4 0 0 0 9 = 2
                year 141 2 1 = 0
                # ONE A's temper counts among all
                one 0 7 0 0 0 = 3
                year 141 2 2 = 7
                """);
        run(due, "promise 24, the pad is no matter", """
                one 2 7 20 40 5 = 1
                pad C
                year 0 2 0 = 1
                pad C@5
                year 0 2 0 = 1
                pad Ch9
                year 0 1 2 = 7
                told 0 = 3
                """);
    }

    private static void images(Due due) {
        run(due, "promises 25, 26", """
                restore 0 = STATE
                one 0 5 3 40 1 = 1
                permit 0 9 = 0
                pad Ah1
                done = 1
                seen 0 true = 1
                set 0 12 = 9
                set 1 5 = 2
                keep
                image 0 = 1
                restore 1 = STATE
                same
                one 1 12 1 1 1 = 2
                one 0 0 0 0 0 = 2
                set 1 9 = 5
                seen 1 false = 2
                seen 1 false = 3
                image 1 = 1
                leave 0 = 1
                leave 1 = 0
                set 0 1 = 12
                forget = 3
                restore 0 = 1
                same
                told 11 = 9
                told 15 = 0
                who = 1
                # an image stays, whatever comes behind it
                one 0 1 1 1 1 = 1
                seen 0 false = 2
                who = 0
                restore 0 = 1
                same
                restore 1 = 1
                told 1 = 3
                told 2 = 12
                told 3 = 9
                told 4 = 3
                told 20 = 12
                # whom the sights asked, and what was heard, is kept too
                one 0 0 0 0 0 = 2
                one 1 0 0 0 9 = 2
                set 1 2 = 9
                forget = 3
                seen 0 true = 1
                who = 1
                image 0 = 1
                forget = 1
                seen 1 true = 1
                who = 2
                restore 0 = 1
                who = 1
                forget = 1
                seen 0 false = 1
                who = 2
                restore 0 = 1
                who = 1
                # what is kept anew takes its place
                restore 1 = 1
                set 1 0 = 9
                image 0 = 1
                set 1 7 = 0
                restore 0 = 1
                told 3 = 0
                restore 1 = 1
                told 3 = 9
                """);
        run(due, "promises 25, 26: the pad, refusals", """
                one 0 5 3 40 1 = 1
                pad Ah1
                image 1 = 1
                told 0 = 3
                wipe = 3
                restore 1 = 1
                told 0 = 0
                pad A@2A
                restore 1 = 1
                told 0 = 4
                fault = 4
                keep
                image -1 = OUTSIDE
                image 2 = OUTSIDE
                image MAX = OUTSIDE
                image MIN = OUTSIDE
                restore -1 = OUTSIDE
                restore 2 = OUTSIDE
                restore MIN = OUTSIDE
                restore 0 = STATE
                same
                """);
    }
}
