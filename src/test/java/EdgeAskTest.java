/** The document's terms, III to V: each sentence that names an edge of what can be asked, of years or of images has its own test. */
public final class EdgeAskTest {
    private static final int ALL = 1073741823;

    private final Edge edge = new Edge();

    private EdgeAskTest() throws java.io.IOException {
    }

    public static void main(String[] args) throws Exception {
        EdgeAskTest test = new EdgeAskTest();
        test.changesNothing();
        test.foretold();
        test.waysAndRooms();
        test.best();
        test.litAndBrightest();
        test.fits();
        test.tells();
        test.seats();
        test.floods();
        test.lease();
        test.whoseAndTill();
        test.beasts();
        test.years();
        test.images();
        test.edge.end("EdgeAskTest");
    }

    private void changesNothing() {
        Run run = edge.of("All that follows changes nothing.").law("shines 9-steps;kicks 10;")
                .calls("beast(0,1)=0 beast(29,9)=1 cell(7,1)=1 lodge(3)=1 hour(5)=10");
        run.calls("work(0,1)=1 dark(29,9)=1 seen(0,1)=1 read(0,6)=1 gain(3,3)=1 image()=5").text("pays 10000;", -1).tape("out;")
                .calls("lead(0,5)=1");
        String state = run.state();
        run.calls("foretold(60,0,0)=0 foretold(60,1,1)=9 foretold(60,2,0)=120 steps(0,29)=9 way(0,29,0)=1 rooms(0)=1")
                .calls("rooms(1)=29").calls("room(0)=" + (ALL - 128));
        run.calls("best(false)=15 best(true)=183 lit(9)=8 fits(0)=32 ask()=5 seats(9,false)=1 seats(9,true)=1")
                .calls("flood(6)=" + ALL + " wet(0)=6 lease(1,0,-1)=3");
        run.calls("whose()=1 till(15)=355 brightest()=3 wildest()=1 lonely()=0 ledger(0)=5 of(0,2)=10 ofCell(0,2)=6")
                .calls("is(6)=1 book(0,0)=0 about(3)=7");
        run.stateIs(state);
    }

    private void foretold() {
        String behind = "FORETOLD behind n HOURS (1 .. 60; those that can pass), nothing else being done";
        edge.of(behind).law("pays 2;kicks 10;")
                .calls("beast(0,4)=0 lodge(0)=1 foretold(0,0,0)=-1 foretold(61,0,0)=-1 foretold(1,0,0)=1 foretold(60,0,0)=60")
                .calls("foretold(1,1,0)=5 foretold(60,1,0)=9 foretold(1,2,0)=1 foretold(60,2,0)=60 is(0)=0 is(4)=0 of(0,1)=4")
                .calls("book(-1,0)=0 is(5)=197");
        edge.of(behind).law("pays 2;kicks 10;").calls("beast(0,4)=0").pass(9997)
                .calls("lodge(0)=1 is(4)=0 foretold(1,0,0)=1 foretold(2,0,0)=2 foretold(3,0,0)=2")
                .calls("foretold(60,0,0)=2 foretold(60,2,0)=2 hour(2)=2 is(0)=9999 foretold(1,0,0)=2 foretold(1,2,0)=0")
                .calls("foretold(60,1,0)=9 foretold(60,2,0)=0");
        edge.of("SILVER, MOOD of a BEAST, KICKS in these HOURS.").law("kicks 10;")
                .calls("beast(0,4)=0 beast(0,5)=1 hour(3)=6 foretold(4,2,0)=8 foretold(2,1,1)=9 by(-1)=1")
                .calls("foretold(2,1,0)=5 foretold(2,1,1)=6 foretold(60,1,1)=0 foretold(4,2,0)=0");
    }

    private void waysAndRooms() {
        String way = "of fewest STEPS; of like ones the lowest next CELL, then the next, ...";
        edge.of(way).calls("way(14,1,0)=8 way(14,1,1)=2 way(14,1,2)=1 way(14,1,3)=-2 way(14,27,0)=15 way(14,27,1)=21")
                .calls("way(14,27,2)=27 way(27,14,0)=21 way(27,14,1)=15")
                .calls("way(5,6,0)=4 way(5,6,4)=0 way(5,6,5)=6 way(5,6,6)=-2 cell(0,1)=1 way(5,6,3)=1 way(5,6,4)=7")
                .calls("way(5,6,5)=6 cell(1,1)=1 way(5,6,2)=2 way(5,6,3)=8");
        edge.of(way).calls("cell(1,1)=1 cell(7,1)=1 cell(13,1)=1 cell(19,1)=1 way(0,2,0)=6 way(0,2,4)=25 way(0,2,5)=26")
                .calls("way(0,2,9)=2 way(0,2,10)=-2 steps(0,2)=10")
                .calls("cell(25,1)=1 way(0,2,0)=-2 way(1,2,0)=-2 way(0,1,0)=-2 way(0,0,0)=-2");
        String rooms = "CELLS that are no walls and have STEPS to one another: how many ROOMS, the most CELLS of one (0 without).";
        edge.of(rooms).calls("rooms(0)=1 rooms(1)=30").forCells(12, 17, "cell(?,1)=1")
                .calls("rooms(0)=2 rooms(1)=12 cell(0,1)=1 rooms(1)=12 cell(29,1)=1 rooms(1)=11")
                .calls("cell(8,1)=1 cell(3,1)=1 rooms(0)=3 rooms(1)=11")
                .calls("room(1)=" + (2 + 4 + 64 + 128) + " room(9)=" + (16 + 32 + 512 + 1024 + 2048));
        edge.of(rooms).forCells(0, 28, "cell(?,1)=1")
                .calls("rooms(0)=1 rooms(1)=1 room(29)=536870912 cell(29,1)=1 rooms(0)=0 rooms(1)=0 room(29)=-1");
        Run chess = edge.of(rooms);
        for (int c = 0; c < 30; c++) {
            chess.calls("cell(" + c + "," + (c / 6 + c) % 2 + ")=1");
        }
        chess.calls("rooms(0)=15 rooms(1)=1 room(0)=1 room(7)=128 steps(0,7)=-1 seats(0,false)=15 seats(0,true)=1");
    }

    private void best() {
        String best = "BEST PLACE for MOON now (be it out or not)";
        edge.of(best).law("shines 9-steps*3;")
                .calls("best(false)=14 lodge(0)=1 best(false)=14 lodge(14)=1 best(false)=14 is(3)=14 out()=1 best(false)=14");
        String size = "by SIZE as now";
        edge.of(size).law("shines size-phase+at-28;").calls("best(true)=1").pass(360).calls("best(true)=1 best(false)=0").pass(24)
                .calls("best(true)=0");
        String work = "each CELL of WORK (6 at most; told: a CELL, need 0 .. 15) has LIGHT of its need or more";
        edge.of(work).law("shines 9-steps;")
                .calls("work(0,9)=1 best(false)=0 work(-1,0)=0 work(0,10)=1 best(false)=-1 work(-1,0)=0 work(0,8)=1")
                .calls("best(false)=1 work(6,9)=2")
                .calls("best(false)=6 work(1,7)=3 best(false)=6 work(1,8)=4 best(false)=-1 work(0,0)=5 work(0,0)=6")
                .calls("work(0,0)=-2 best(false)=-1 about(4)=6");
        edge.of(work).law("shines 15;")
                .calls("work(29,15)=1 work(0,15)=2 best(false)=0 best(true)=450 cell(29,1)=1 best(false)=-1 best(true)=-1")
                .calls("work(-1,0)=0 work(29,0)=1 best(true)=435");
        String dark = "each of DARK (6 at most; told: a CELL, most 0 .. 15) most or less";
        edge.of(dark).law("shines 9-steps;").calls("dark(14,5)=1 best(false)=4 best(true)=" + lightOf(4))
                .calls("dark(-1,0)=0 dark(14,9)=1 best(false)=14 dark(14,8)=2 best(false)=15 dark(0,0)=3 best(false)=29")
                .calls("best(true)=" + lightOf(29) + " dark(29,8)=4 best(false)=-1")
                .calls("dark(0,15)=5 dark(0,15)=6 dark(0,15)=-2 about(5)=6 dark(-1,0)=0 dark(0,15)=1 best(false)=14");
        String most = "most LIGHT of all CELLS together; of like ones the lowest; none.";
        edge.of(most).law("shines 9-steps;")
                .calls("best(false)=14 best(true)=" + lightOf(14) + " cell(14,2)=1 best(false)=14 dark(14,8)=1 dark(15,8)=2 best(false)=8 best(true)=" + lightOf(8));
        edge.of(most).law("shines 1;")
                .calls("best(false)=0 best(true)=30 cell(0,1)=1 best(false)=1 best(true)=29 cell(6,1)=1 cell(2,1)=1")
                .calls("cell(7,1)=1 best(false)=3 best(true)=25")
                .law("shines 0;").calls("best(false)=1 best(true)=0 work(1,1)=1 best(false)=-1 best(true)=-1");
        edge.of(most).forCells(0, 29, "cell(?,1)=1").calls("best(false)=-1 best(true)=-1");
    }

    /** All light together by 9 less the steps, without walls. */
    private static int lightOf(int moon) {
        int sum = 0;
        for (int c = 0; c < 30; c++) {
            sum += 9 - Math.abs(c / 6 - moon / 6) - Math.abs(c % 6 - moon % 6);
        }
        return sum;
    }

    private void litAndBrightest() {
        String lit = "LIT: CELLS (bits) with LIGHT n or more now (walls aside).";
        edge.of(lit).law("shines at;")
                .calls("lit(0)=" + ALL + " lit(1)=0 lodge(3)=1 lit(0)=" + ALL + " lit(1)=" + (ALL - 1) + " lit(14)=" + (ALL - 16383) + " lit(15)=" + (ALL - 32767))
                .calls("cell(20,1)=1 lit(15)=" + (ALL - 32767 - (1 << 20)) + " lit(0)=" + (ALL - (1 << 20)) + " lit(16)=-1 lit(-1)=-1 out()=1 lit(0)=" + (ALL - (1 << 20)));
        String bright = "BRIGHTEST: the CELL of most LIGHT; of like ones the lowest; none (no LIGHT at all).";
        edge.of(bright).calls("brightest()=-1 lodge(9)=1 brightest()=-1").law("shines if at=4 then 1 else 0 end;")
                .calls("brightest()=4").law("shines if at<4 then 0 else 15 end;")
                .calls("brightest()=4").law("shines at;").calls("brightest()=15 out()=1 brightest()=-1");
        edge.of(bright).law("shines 15;").calls("lodge(9)=1 brightest()=0").law("shines at/29;").calls("brightest()=29")
                .law("shines 0;").calls("brightest()=-1");
    }

    private void fits() {
        String seen = "FITS: SEEN (8 at most; told: that a CELL had LIGHT 0 .. 15)";
        edge.of(seen).law("shines size;")
                .calls("seen(0,15)=1 fits(0)=30 fits(2)=32768 seen(-1,0)=0 seen(29,0)=1 fits(2)=1 seen(0,16)=-2 seen(0,-1)=-2")
                .calls("seen(30,0)=-2 fits(2)=1")
                .calls("seen(0,0)=2 seen(0,0)=3 seen(0,0)=4 seen(0,0)=5 seen(0,0)=6 seen(0,0)=7 seen(0,0)=8 seen(0,1)=-2")
                .calls("fits(0)=30 about(6)=8");
        String places = "(a CELL that is no wall, SIZE 0 .. 15; HOUR, and PHASE as now)";
        edge.of(places)
                .calls("fits(0)=480 fits(1)=" + ALL + " fits(2)=65535 cell(0,1)=1 cell(29,1)=1 fits(0)=448 fits(1)=" + (ALL - 1 - (1 << 29)) + " lodge(3)=1 fits(0)=448");
        edge.of(places).law("shines if size=0 then hour else if size=15 then phase else 15 end end;")
                .calls("hour(60)=0 seen(0,2)=1 fits(0)=30 fits(2)=32768 seen(-1,0)=0 seen(0,15)=1")
                .calls("fits(2)=32767 seen(-1,0)=0 seen(0,14)=1 fits(0)=0").law("shines hour-50;")
                .calls("seen(-1,0)=0 seen(0,10)=1 fits(0)=480 hour(1)=0 fits(0)=0");
        String all = "by which all SEEN is so: how many, their CELLS, their SIZES.";
        edge.of(all).calls("seen(0,9)=1 seen(1,11)=2 seen(2,13)=3 seen(3,15)=4 fits(0)=1 fits(1)=8 fits(2)=32768 seen(3,14)=5")
                .calls("fits(0)=0 fits(1)=0 fits(2)=0");
        edge.of(all).calls("seen(14,15)=1 fits(0)=1 fits(1)=16384 fits(2)=32768 seen(-1,0)=0 seen(14,13)=1 fits(0)=5")
                .calls("fits(1)=" + (256 + 8192 + 16384 + 32768 + (1 << 20)) + " fits(2)=40960");
        edge.of(all).law("shines if steps=0 then size else 0 end;")
                .calls("seen(0,7)=1 fits(0)=1 fits(1)=1 fits(2)=128 seen(-1,0)=0 seen(29,9)=1 fits(0)=1 fits(1)=536870912")
                .calls("fits(2)=512 cell(0,1)=1 seen(-1,0)=0 seen(1,7)=1 fits(1)=2");
        edge.of(all).law("shines size;").calls("cell(0,1)=1 seen(15,7)=1 fits(0)=29 fits(2)=128 fits(1)=1073741822");
        edge.of(all).law("shines 15-steps*9;")
                .calls("cell(14,1)=1 seen(14,0)=1 fits(0)=464 seen(14,1)=2 fits(0)=0 seen(-1,0)=0 seen(0,6)=1 seen(1,15)=2")
                .calls("fits(1)=2 fits(0)=16");
    }

    private void tells() {
        String tell = "the CELL (no wall) of which most unlike LIGHTS come of all these PLACES; of like ones the lowest; none (without PLACES).";
        edge.of(tell).law("shines if at=29 then size else 0 end;")
                .calls("ask()=29 cell(29,1)=1 ask()=0 cell(0,1)=1 ask()=1 seen(5,1)=1 fits(0)=0 ask()=-1");
        edge.of(tell).law("shines if at=28 or at=20 then size else if at=3 then size/2 else size/3 end end;")
                .calls("ask()=20 cell(20,1)=1 ask()=28 cell(28,1)=1 ask()=3")
                .calls("seen(3,7)=1 ask()=0 seen(0,5)=2 fits(2)=32768 ask()=0");
        edge.of(tell).law("shines if at=9 and size=0 then 5 else if at=12 and size=15 then 5 else 0 end end;")
                .calls("ask()=9 cell(9,1)=1 ask()=12 cell(12,1)=1 ask()=0");
        edge.of(tell).law("shines steps;").calls("seen(7,0)=1 fits(1)=128 ask()=0 seen(-1,0)=0 seen(7,1)=1")
                .calls("fits(1)=" + (2 + 64 + 256 + 8192) + " ask()=0 cell(0,1)=1 ask()=1");
        edge.of(tell).forCells(0, 29, "cell(?,1)=1")
                .calls("ask()=-1 fits(0)=0 cell(17,0)=1 ask()=17 seen(17,15)=1 ask()=17 seen(17,14)=2 ask()=-1");
    }

    private void seats() {
        String seats = "SEATS: CELLS that are no walls with LIGHT n or more now, no two side by side: how many at most; in how many ways as many as that.";
        edge.of(seats).calls("seats(0,false)=15 seats(0,true)=2 seats(1,false)=0 seats(1,true)=1 cell(0,1)=1 seats(0,false)=15")
                .calls("seats(0,true)=1 cell(1,1)=1 seats(0,false)=14");
        edge.of(seats).law("shines if at<2 then 4 else if at=28 then 5 else 0 end end;")
                .calls("lodge(9)=1 seats(4,false)=2 seats(4,true)=2 seats(5,false)=1 seats(5,true)=1")
                .calls("seats(6,false)=0 seats(6,true)=1 cell(0,1)=1 seats(4,true)=1 cell(1,1)=1 cell(28,1)=1 seats(4,false)=0")
                .calls("seats(4,true)=1 seats(16,true)=-1 seats(-1,true)=-1");
        edge.of(seats).law("shines if at=5 or at=6 or at=11 or at=12 then 1 else 0 end;")
                .calls("lodge(9)=1 seats(1,false)=2 seats(1,true)=4 out()=1 seats(1,true)=1");
        // a ring of eight has two ways, a line of four three, and cells alone one
        edge.of(seats).law("shines if at<3 or at=6 or at=8 or at>11 and at<15 then 1 else if at>25 then 1 else 0 end end;")
                .calls("lodge(9)=1 seats(1,false)=6 seats(1,true)=6")
                .calls("cell(7,1)=1 seats(1,true)=6 cell(26,1)=1 seats(1,false)=6 seats(1,true)=2 cell(28,1)=1 seats(1,true)=2");
        edge.of(seats).law("shines if at/6*6=at or at/6*6=at-1 or at/6*6=at-3 or at/6*6=at-4 then 1 else 0 end;")
                .calls("lodge(9)=1 seats(1,false)=10 seats(1,true)=4");
    }

    private void floods() {
        String flood = "of HEIGHT below level that the sea comes to from the rim through CELLS of HEIGHT below level alone (walls are no hindrance).";
        edge.of(flood).calls("flood(0)=0 flood(5)=0").calls("flood(6)=" + ALL)
                .calls("height(14,4)=1 flood(5)=0 height(13,4)=1 flood(5)=0 height(12,4)=1 flood(5)=28672 flood(4)=0")
                .calls("cell(12,1)=1 cell(13,1)=1")
                .calls("flood(5)=28672 height(12,5)=1 flood(5)=0 height(12,3)=1 height(14,0)=1 flood(4)=4096 flood(1)=0 flood(9)=" + ALL);
        edge.of(flood).forCells(0, 29, "height(?,9)=1")
                .calls("flood(9)=0 height(0,8)=1 flood(9)=1 flood(8)=0 height(7,0)=1 flood(9)=1 height(1,8)=1 flood(9)=131");
        Run alone = edge.of(flood).forCells(0, 29, "height(?,9)=1");
        for (int c = 0; c < 30; c++) {
            boolean rim = c < 6 || c > 23 || c % 6 == 0 || c % 6 == 5;
            alone
                    .calls("height(" + c + ",0)=1 flood(1)=" + (rim ? 1 << c : 0) + " wet(" + c + ")=" + (rim ? 1 : -1) + " height(" + c + ",9)=1");
        }
        Run rim = edge.of(flood).forCells(0, 29, "height(?,0)=1");
        rim.calls("flood(0)=0 flood(1)=" + ALL + " flood(10)=-1 flood(-1)=-1");
        for (int c : new int[] {0, 1, 2, 3, 4, 5, 6, 11, 12, 17, 18, 23, 24, 25, 26, 27, 28, 29}) {
            rim.calls("height(" + c + ",3)=1");
        }
        rim
                .calls("flood(3)=0 flood(4)=" + ALL + " height(17,0)=1 flood(1)=" + (1 << 17 | 30 << 6 | 30 << 12 | 30 << 18) + " height(17,3)=1 height(29,0)=1 flood(1)=536870912");
        String wet = "WET of a CELL: the lowest level (1 .. 9) by which it is in the FLOOD; never.";
        edge.of(wet)
                .calls("wet(0)=6 height(0,0)=1 wet(0)=1 height(0,8)=1 wet(0)=9 height(0,9)=1 wet(0)=-1 height(7,0)=1 wet(7)=6")
                .calls("height(1,2)=1 wet(7)=3 wet(1)=3 cell(1,1)=1 wet(7)=3 height(1,9)=1 height(6,9)=1")
                .calls("height(8,9)=1 height(13,8)=1 wet(7)=9 height(13,9)=1 wet(7)=-1 wet(13)=-1 wet(30)=-1 wet(-1)=-1 wet(29)=6");
    }

    private void lease() {
        String months = "GAINS of months 0 .. 11 (told, -99 .. 99; at first 0)";
        edge.of(months)
                .calls("lease(12,0,-1)=0 gain(0,99)=1 gain(11,-99)=1 gain(12,1)=0 gain(-1,1)=0 gain(1,100)=0 gain(1,-100)=0")
                .calls("lease(12,0,-1)=99 gain(11,98)=1 lease(12,0,-1)=197 gain(0,-99)=1")
                .calls("lease(12,0,-1)=98 gain(11,0)=1 lease(12,0,-1)=0 lease(12,0,11)=0 lease(12,0,0)=0");
        String most = "k (0 .. 12) months at most, between any two of which at least gap (0 .. 11) others lie: most GAINS together";
        Run all = edge.of(most).forCells(0, 11, "gain(?,9)=1");
        for (int k = 0; k <= 12; k++) {
            for (int gap = 0; gap <= 11; gap++) {
                all.calls("lease(" + k + "," + gap + ",-1)=" + 9 * Math.min(k, (12 + gap) / (gap + 1)));
            }
        }
        all.calls("lease(13,0,-1)=-10000 lease(-1,0,-1)=-10000 lease(1,12,-1)=-10000 lease(1,-1,-1)=-10000");
        edge.of(most).calls("gain(0,5)=1 gain(1,9)=1 gain(2,5)=1 gain(11,5)=1 lease(3,0,-1)=19 lease(2,0,-1)=14 lease(4,0,-1)=24")
                .calls("lease(12,1,-1)=15 lease(1,0,-1)=9 lease(0,0,-1)=0 lease(0,0,1)=0")
                .calls("lease(2,1,-1)=14 lease(2,9,-1)=14 lease(2,10,-1)=10 lease(2,11,-1)=9 lease(12,9,11)=1 lease(12,9,1)=1")
                .calls("lease(12,9,0)=0");
        String like = "of like ones the fewest months, then those with the lowest month first, then the next, .. (GAINS; which).";
        edge.of(like).calls("gain(0,5)=1 gain(2,5)=1 gain(1,10)=1 lease(2,1,-1)=10 lease(2,1,0)=0 lease(2,1,1)=1 lease(2,1,2)=0")
                .calls("gain(1,0)=1 lease(12,0,1)=0 lease(12,0,3)=0 lease(12,0,0)=1");
        edge.of(like).calls("gain(2,7)=1 gain(5,7)=1 gain(9,7)=1 lease(1,0,2)=1 lease(1,0,5)=0 lease(2,0,2)=1 lease(2,0,5)=1")
                .calls("lease(2,0,9)=0 lease(2,3,5)=0 lease(2,3,2)=1 lease(2,3,9)=1 lease(2,6,2)=1 lease(2,6,9)=1")
                .calls("lease(2,7,-1)=7 lease(2,7,2)=1 lease(2,7,9)=0");
        edge.of(like).calls("gain(3,5)=1 gain(4,5)=1 gain(7,5)=1 gain(8,5)=1 lease(2,2,-1)=10 lease(2,2,3)=1 lease(2,2,7)=1")
                .calls("lease(2,2,8)=0 lease(2,2,4)=0 lease(2,4,3)=1 lease(2,4,8)=1 lease(2,4,7)=0")
                .calls("lease(2,5,3)=1 lease(2,5,-1)=5 lease(4,0,-1)=20 lease(3,0,3)=1 lease(3,0,4)=1 lease(3,0,7)=1")
                .calls("lease(3,0,8)=0 gain(3,0)=1 gain(7,9)=1 gain(8,9)=1 lease(2,2,-1)=14 lease(2,2,7)=1 lease(2,2,8)=0");
    }

    private void whoseAndTill() {
        String whose = "WHOSE LAW (told: READ, 8 at most: a CELL, LIGHT 0 .. 15): TEXTS (bits) by whose shines all are so (as now).";
        edge.of(whose).calls("whose()=0 read(0,0)=1 whose()=0").text("shines 15;", 0).text("shines 15-steps;", 1)
                .text("shines hour;", 2).text("shines size;", 3)
                .calls("whose()=15 lodge(0)=1 whose()=12 read(-1,0)=0 whose()=15 read(0,15)=1 whose()=3 read(1,15)=2 whose()=1")
                .calls("read(-1,0)=0 read(3,12)=1 whose()=2 hour(12)=0 whose()=6 read(4,12)=2 whose()=4")
                .calls("by(0)=1 whose()=4 read(30,0)=-2 read(0,16)=-2 read(0,-1)=-2 read(0,12)=3 read(0,12)=4 read(0,12)=5")
                .calls("read(0,12)=6 read(0,12)=7 read(0,12)=8 read(0,0)=-2 whose()=4 about(7)=8 out()=1 whose()=0");
        String till = "TILL: in how many HOURS (0: now) SIZE is a told one (0 .. 15) first, HOURS going on beyond 9999.";
        Run run = edge.of(till);
        for (int size = 0; size <= 15; size++) {
            run.calls("till(" + size + ")=" + 24 * size);
        }
        run.calls("till(16)=-1 till(-1)=-1 hour(23)=0 till(0)=0 till(1)=1 till(15)=337 hour(1)=0 till(1)=0 till(0)=696")
                .calls("till(2)=24").pass(336).calls("till(15)=0 till(14)=24 till(0)=360 hour(23)=0 till(15)=0 till(14)=1")
                .calls("hour(1)=0 till(15)=" + 24 * 29 + " till(14)=0");
        edge.of(till).pass(9999).calls("is(2)=4 till(4)=0 till(3)=9 till(0)=81 till(5)=201 till(15)=441 is(0)=9999");
    }

    private void beasts() {
        edge.of("WILDEST: the BEAST of most MOOD (0, too); of like ones the lowest; none (none is told).")
                .calls("wildest()=-1 beast(0,0)=0 wildest()=0 beast(0,0)=1 wildest()=0 beast(0,1)=2 wildest()=2")
                .calls("beast(0,9)=3 beast(0,9)=4 wildest()=3 hour(9)=0 wildest()=0");
        edge.of("LONELY: BEASTS (bits) in whose ROOM there is no other one.")
                .calls("lonely()=0 beast(0,0)=0 lonely()=1 beast(29,0)=1 lonely()=0").forCells(12, 17, "cell(?,1)=1")
                .calls("lonely()=3 beast(29,0)=2 lonely()=1 lead(2,24)=1 lonely()=1 beast(5,0)=3 lonely()=0 cell(4,1)=1")
                .calls("cell(11,1)=1 lonely()=9 beast(5,0)=4 lonely()=1 cell(17,0)=1 lonely()=1 cell(4,2)=1 lonely()=0");
        edge.of("BY THE BOOK: KICKS of a BEAST (NONE: all).").law("kicks if who=1 then 0 else 10 end;")
                .calls("ledger(-1)=0 beast(0,0)=0 beast(0,0)=1 beast(0,0)=2 ledger(0)=0 hour(14)=28 ledger(0)=14 ledger(1)=0")
                .calls("ledger(2)=14 ledger(-1)=28 hour(2)=4 ledger(0)=15 ledger(2)=15 ledger(-1)=30 of(0,3)=16 undo()=15")
                .calls("ledger(-1)=30 undo()=14 ledger(-1)=28 ledger(3)=-2");
    }

    private void years() {
        String seed = "X is SEED (0 .. 9999) * 2 + 197; n times (1 .. 40)";
        edge.of(seed).calls("years(-1,1)=-1 years(10000,1)=-1 years(0,0)=-1 years(0,41)=-1 is(5)=197 about(3)=0 years(0,1)=0")
                .calls("is(5)=25682 years(9999,1)=0 is(5)=3812");
        for (int n = 1; n <= 40; n++) {
            int[] due = plainYears(1234, n);
            edge.of(seed)
                    .calls("years(1234," + n + ")=" + due[0] + " is(5)=" + due[1] + " is(3)=" + due[2] + " is(4)=" + due[3] + " about(3)=1");
        }
        // 203 mod 5 is 3, an hour: the two beasts draw behind the year's own draw
        edge.of("x is X, X anew (as in a draw)").law("kicks 7;")
                .calls("beast(0,5)=0 beast(0,5)=1 years(3,1)=1 of(0,1)=" + (28316 % 10 < 7 ? 6 : 4))
                .calls("of(1,1)=" + (nextX(28316) % 10 < 7 ? 6 : 4) + " is(5)=" + nextX(nextX(28316)));
        // 205 mod 5 is 0, mod 30 is 25
        edge.of("0 LODGED in CELL x mod 30")
                .calls("years(4,1)=0 is(3)=25 years(4,1)=0 is(3)=25 about(3)=2 out()=1 cell(25,1)=1 years(4,1)=0 is(3)=-1")
                .calls("years(9999,1)=0 is(3)=5");
        // 201 mod 5 is 1, 201 / 5 mod 30 is 10; 201 mod 1, 2, 3, 4, 5 is 0, 1, 0, 1, 1
        String led = "1 the BEAST x mod how many is LED to CELL x / 5 mod 30";
        edge.of(led).calls("beast(0,0)=0 years(2,1)=0 of(0,0)=10 beast(1,0)=1 lead(0,2)=1 years(2,1)=0 of(0,0)=2 of(1,0)=10")
                .calls("beast(3,0)=2 lead(1,9)=1 years(2,1)=0 of(0,0)=10 of(1,0)=9 of(2,0)=3")
                .calls("beast(4,0)=3 beast(5,0)=4 years(2,1)=0 of(1,0)=10 lead(1,9)=1 cell(10,1)=0 lead(0,7)=1 cell(10,1)=1")
                .calls("years(2,1)=0 of(1,0)=9");
        edge.of(led).calls("beast(0,0)=0 cell(1,1)=1 cell(6,1)=1 years(2,1)=0 of(0,0)=0 cell(6,0)=1 years(2,1)=0 of(0,0)=10")
                .calls("years(2,1)=0 of(0,0)=10 about(3)=3");
        // 197 mod 5 is 2, mod 4 it is 1; the second x of seed 9999 is 3812: mod 5 it is 2, mod 4 it is 0
        edge.of("2 OUT, if x mod 4 is 0 (each if it can be)")
                .calls("lodge(7)=1 years(0,1)=0 is(3)=7 years(9999,2)=0 is(3)=-1 cell(5,1)=1 years(9999,2)=0 is(3)=-1")
                .calls("lodge(7)=1 years(9999,2)=0 is(3)=-1");
        edge.of("3, 4 an HOUR (if it can pass).").law("pays 5;")
                .calls("lodge(7)=1 years(3,1)=1 is(4)=5 years(1,1)=2 is(4)=10 beast(0,3)=0 years(3,1)=3 of(0,1)=2")
                .calls("is(5)=" + nextX(28316)).pass(9996)
                .calls("is(0)=9999 years(3,1)=9999 is(5)=28316 of(0,1)=0 about(3)=30 undo()=29 is(0)=9999");
        edge.of("What there are none of isn't.").calls("years(2,1)=0 is(5)=27438 about(3)=1 about(0)=0 lonely()=0");
        edge.of("It is one STEP: HOUR.").calls("beast(3,9)=0 lodge(8)=1").calls("years(77,40)=" + hoursOf(77))
                .calls("about(3)=2 undo()=1 is(0)=0 is(3)=8 of(0,0)=3 of(0,1)=9 is(4)=0 is(5)=197 book(-1,0)=0");
        edge.of("It is one STEP: HOUR.").calls("hour(30)=0 years(0,1)=30 about(3)=30 undo()=29 is(5)=197 is(0)=30 undo()=28 is(0)=29");
    }

    private static int nextX(int x) {
        return (x * 439 + 317) % 30559;
    }

    /** Years on a farm without beasts and walls: hour, x, moon, silver. */
    private static int[] plainYears(int seed, int n) {
        int x = seed * 2 + 197;
        int[] now = {0, 0, -1, 0};
        for (int i = 0; i < n; i++) {
            if (x % 5 == 0) {
                now[2] = x % 30;
            } else if (x % 20 == 12) {
                now[2] = -1;
            } else if (x % 5 > 2) {
                now[0]++;
                now[3] += now[2] < 0 ? 0 : 1;
            }
            x = nextX(x);
        }
        now[1] = x;
        return now;
    }

    /** The hours that years of forty let pass with one beast, which draws once in each. */
    private static int hoursOf(int seed) {
        int x = seed * 2 + 197;
        int hours = 0;
        for (int i = 0; i < 40; i++) {
            boolean hour = x % 5 > 2;
            x = nextX(x);
            if (hour) {
                hours++;
                x = nextX(x);
            }
        }
        return hours;
    }

    private void images() {
        Run run = edge.of("AN IMAGE: all as it is, but the tape and the latest FAULT.").law("pays 4;kicks 10;")
                .calls("cell(1,3)=1 height(2,7)=1 beast(3,4)=0 lodge(1)=1 hour(2)=2");
        run.calls("work(1,0)=1 dark(2,2)=1 seen(3,0)=1 read(4,0)=1 gain(5,6)=1").tape("out;").calls("image()=2");
        String state = run.state();
        run.calls("cell(1,2)=1 cell(9,1)=1 height(2,1)=1 beast(4,4)=1 lead(0,7)=1 work(2,15)=2 dark(0,0)=2 seen(1,1)=2")
                .calls("read(9,9)=2 gain(5,9)=1 by(-1)=1 hour(9)=0 out()=1 undo()=13");
        run.calls("text()=1 about(1)=2 back()=2 about(8)=0 fault(0)=0 about(1)=1").tape("out;").stateIs(state);
        edge.of("AN IMAGE: all as it is, but the tape and the latest FAULT.")
                .calls("feed(1,2,3,4,5)=20 image()=0 end(4)=4 back()=0 about(8)=4 text()=-1 fault(0)=1 fault(1)=0 image()=0")
                .text("pays 10000;", -1)
                .calls("fault(0)=2 fault(1)=5 back()=0 fault(0)=2 fault(1)=5 about(8)=0").text("", 0)
                .calls("fault(0)=0 back()=0 fault(0)=0 fault(1)=-1 about(1)=0 by(0)=0");
        edge.of("BACK: all is so again.").law("kicks 10;")
                .calls("beast(0,0)=0 hour(35)=35 image()=35 hour(7)=7 book(0,0)=12 of(0,3)=42 back()=35 book(-1,0)=30")
                .calls("book(0,0)=5 book(29,0)=34 of(0,3)=35")
                .calls("hour(1)=1 book(0,0)=6 undo()=29 book(0,0)=5 undo()=28 book(0,0)=4 book(29,0)=33 of(0,3)=34 back()=35")
                .calls("ledger(0)=30 foretold(3,2,0)=3 book(0,0)=5");
        edge.of("BACK: all is so again.").law("kicks 10;")
                .calls("beast(0,0)=0 hour(3)=3 image()=3 hour(60)=60 back()=3 book(-1,0)=3 book(0,0)=0 book(2,0)=2 of(0,3)=3")
                .calls("ledger(-1)=3 book(3,0)=-2");
        edge.of("BACK: all is so again.").law("kicks 10;")
                .calls("image()=0 beast(0,0)=0 hour(3)=3 of(0,3)=3 back()=0 about(0)=0 beast(1,1)=0 of(0,3)=0 of(0,1)=1")
                .calls("of(0,0)=1");
        edge.of("BACK: all is so again.").law("shines 9-steps;")
                .calls("work(0,9)=1 dark(1,8)=1 seen(2,9)=1 seen(3,8)=2 read(4,3)=1 lodge(10)=1 image()=0 work(-1,0)=0")
                .calls("work(5,9)=1 dark(-1,0)=0 dark(5,0)=1")
                .calls("seen(-1,0)=0 seen(7,9)=1 seen(7,9)=2 read(-1,0)=0 read(4,8)=1 best(false)=-1 fits(1)=128 whose()=1")
                .calls("back()=0 best(false)=0 fits(1)=4 whose()=0 read(-1,0)=0 read(4,8)=1 whose()=1");
        edge.of("BACK: all is so again.").text("shines 1;", 0).calls("image()=0").text("shines 2;", 1)
                .calls("by(1)=1 lodge(0)=1 ofCell(0,2)=2 back()=0").text("shines 3;", 1)
                .calls("by(1)=1 lodge(0)=1 ofCell(0,2)=3 whose()=3");
        edge.of("BACK: all is so again.")
                .calls("lodge(3)=1 hour(3)=0 image()=3 undo()=3 undo()=2 undo()=1 undo()=0 undo()=-1 back()=3 about(3)=4")
                .calls("undo()=3 is(0)=2 back()=3 is(0)=3 is(4)=3 hour(30)=0 back()=3 about(3)=4")
                .calls("undo()=3 undo()=2 undo()=1 undo()=0 is(3)=-1 undo()=-1 image()=0 back()=0 undo()=-1");
    }
}
